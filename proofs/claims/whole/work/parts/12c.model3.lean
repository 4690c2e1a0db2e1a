abbrev rmX2_hoursUntilRuined : Room := { frames := 6, cells := 0, slots := 0, locals := 148 }
theorem b_X2_hoursUntilRuined : Cond.instanceMethod yX2_hoursUntilRuined ∈ LW ∧ Cond.selects RX2 yX2_hoursUntilRuined yX2_hoursUntilRuined ∈ LW ∧ Cond.initialized RX2 ∈ LW ∧ Cond.code yX2_hoursUntilRuined cX2_hoursUntilRuined 2 (some .int) ∈ LW := ⟨q845, q846, q40, q847⟩
set_option maxHeartbeats 4000000 in
set_option maxRecDepth 100000 in
theorem c_X2_hoursUntilRuined (l : Launch) (D : va_G) (cI cZ cL : ClassId) {n k : Nat} (o : Nat) (b : Nat → Nat) (σ : Sg) (κ ζ : Nat → Int32) (th : Int32) (hst : Shp n k σ) {B : Nat} (hB : Bnd B σ) (hB2 : B + 24400 < 2 ^ 29) (x : Int32) : MC l yX2_hoursUntilRuined cX2_hoursUntilRuined 2 (some .int) rmX2_hoursUntilRuined D (tZ cI cZ cL) [.ref o, .int x] (rC cI cZ o b σ κ ζ th) (rC cI cZ o b σ (if hasF 0 σ x = 0 then κ else nowF σ) ζ (if hasF 0 σ x = 0 then 1 else 0)) (some (.int (if hasF 0 σ x = 0 then 0 else untilS σ x.toNatClampNeg))) := by
  refine MC.of (by decide) (Nat.le_of_ble_eq_true rfl) ?_
  intro p e s m args below meth c A ls Q hx hb hml hr hts hown hlocks hA hP hD hK hS hl hQ
  have hown : s.vm.findClass RX2 = some m.cls := hown
  have hn10 := hst.1
  have hk16 := hst.2.1
  have hl : lv_has ls 2 [(0, .ref o), (1, .int x)] := hl
  refine lv_aload_n hx hb dX2_hoursUntilRuined_0 rfl (lv_at hl 0 rfl) ?_
  refine lv_iconst (v := 0) hx hb dX2_hoursUntilRuined_1 (by decide) ?_
  refine x_put (C := RX2) (T := TX2) (N := 14) (ws2 := rC cI cZ o b σ κ ζ 0) hx hb hts in_wsX20 tyX2_ok nmX2 hown hK hP hD hS 0 rfl rfl 0 (by decide) q592 rfl (by decide +kernel) (Nat.le_of_ble_eq_true rfl) rfl dX2_hoursUntilRuined_2 (fun H locs hP hD hS => ?_)
  refine lv_aload_n hx hb dX2_hoursUntilRuined_5 rfl (lv_at hl 0 rfl) ?_
  refine lv_iload_n hx hb dX2_hoursUntilRuined_6 rfl (lv_at hl 1 rfl) ?_
  refine MC.callV (C := RX2) (T := TX2) (N := 14) (As := [.int x]) (rest := []) (wB := rC cI cZ o b σ κ ζ 0) (c_X2_isField l D cI cZ cL o b σ κ ζ 0 hst x _ rfl) ⟨hx, hb, hml, hown, hts⟩ q654 b_X2_isField (n := 1) (by decide +kernel) ⟨Nat.le_of_ble_eq_true rfl, Nat.le_of_ble_eq_true rfl⟩ hK hP hD hS hA (sp0 _) (sp0 _) (ci := 2) rfl (q0 := 0) rfl rfl hl.1 rfl (Nat.le_of_ble_eq_true rfl) dX2_hoursUntilRuined_7 ⟨Nat.le_of_ble_eq_true rfl, Nat.le_of_ble_eq_true rfl⟩ (fun H locs hP hD hS => ?_)
  refine lv_if_eq (tgt := 21) hx hb dX2_hoursUntilRuined_10 (by decide) (fun c_10 => ?_) (fun c_10 => ?_)
  · refine lv_aload_n hx hb dX2_hoursUntilRuined_21 rfl (lv_at hl 0 rfl) ?_
    refine lv_iconst (v := 1) hx hb dX2_hoursUntilRuined_22 (by decide) ?_
    refine MC.callV (C := RX2) (T := TX2) (N := 14) (As := [.int 1]) (rest := []) (wB := rC cI cZ o b σ κ ζ 1) (c_X2_no l D cI cZ cL o b σ κ ζ 0 1) ⟨hx, hb, hml, hown, hts⟩ q646 b_X2_no (n := 1) (by decide +kernel) ⟨Nat.le_of_ble_eq_true rfl, Nat.le_of_ble_eq_true rfl⟩ hK hP hD hS hA (sp0 _) (sp0 _) (ci := 2) rfl (q0 := 0) rfl rfl hl.1 rfl (Nat.le_of_ble_eq_true rfl) dX2_hoursUntilRuined_23 ⟨Nat.le_of_ble_eq_true rfl, Nat.le_of_ble_eq_true rfl⟩ (fun H locs hP hD hS => ?_)
    subst hQ
    exact ri hx hb hr hlocks hK hP hD hS dX2_hoursUntilRuined_26 (by rw [if_pos c_10, if_pos c_10]) (by rw [if_pos c_10])
  · obtain ⟨j, hj, ej⟩ : ∃ j, j < n ∧ x = nI j := by
      rcases hasF_iff hst.f0 (by omega) x with q | q
      · exact absurd q.1 c_10
      · exact q.2
    subst ej
    refine lv_aload_n hx hb dX2_hoursUntilRuined_13 rfl (lv_at hl 0 rfl) ?_
    refine lv_iload_n hx hb dX2_hoursUntilRuined_14 rfl (lv_at hl 1 rfl) ?_
    refine MC.callV (C := RX2) (T := TX2) (N := 14) (As := [.int (nI j)]) (rest := []) (wB := rC cI cZ o b σ (nowF σ) ζ 0) (c_X2_until l D cI cZ cL o b σ κ ζ 0 hst hB hB2 j hj) ⟨hx, hb, hml, hown, hts⟩ q848 b_X2_until (n := 1) (by decide +kernel) ⟨Nat.le_of_ble_eq_true rfl, Nat.le_of_ble_eq_true rfl⟩ hK hP hD hS hA (sp0 _) (sp0 _) (ci := 2) rfl (q0 := 0) rfl rfl hl.1 rfl (Nat.le_of_ble_eq_true rfl) dX2_hoursUntilRuined_15 ⟨Nat.le_of_ble_eq_true rfl, Nat.le_of_ble_eq_true rfl⟩ (fun H locs hP hD hS => ?_)
    refine lv_goto (tgt := 26) hx hb dX2_hoursUntilRuined_18 (by decide) ?_
    subst hQ
    exact ri hx hb hr hlocks hK hP hD hS dX2_hoursUntilRuined_26 (by rw [if_neg c_10, if_neg c_10]) (by rw [if_neg c_10, nI_clamp (by omega)])

abbrev rmX2_turn : Room := { frames := 2, cells := 0, slots := 0, locals := 43 }
theorem b_X2_turn : Cond.instanceMethod yX2_turn ∈ LW ∧ Cond.selects RX2 yX2_turn yX2_turn ∈ LW ∧ Cond.initialized RX2 ∈ LW ∧ Cond.code yX2_turn cX2_turn 2 (some .boolean) ∈ LW := ⟨q667, q668, q40, q669⟩
set_option maxHeartbeats 4000000 in
set_option maxRecDepth 100000 in
theorem c_X2_turn (l : Launch) (D : va_G) (cI cZ cL : ClassId) {n k : Nat} (o : Nat) (b : Nat → Nat) (σ : Sg) (κ ζ : Nat → Int32) (th : Int32) (hst : Shp n k σ) {B : Nat} (hB : Bnd B σ) (x : Int32) : MC l yX2_turn cX2_turn 2 (some .boolean) rmX2_turn D (tZ cI cZ cL) [.ref o, .int x] (rC cI cZ o b σ κ ζ th) (rC cI cZ o b (if hasF 1 σ x = 0 then σ else turnS σ x.toNatClampNeg) κ ζ (if hasF 1 σ x = 0 then 1 else 0)) (some (.int (if hasF 1 σ x = 0 then 0 else turnS σ x.toNatClampNeg 10 x.toNatClampNeg))) := by
  refine MC.of (by decide) (Nat.le_of_ble_eq_true rfl) ?_
  intro p e s m args below meth c A ls Q hx hb hml hr hts hown hlocks hA hP hD hK hS hl hQ
  have hown : s.vm.findClass RX2 = some m.cls := hown
  have hn10 := hst.1
  have hk16 := hst.2.1
  have hl : lv_has ls 2 [(0, .ref o), (1, .int x)] := hl
  refine lv_aload_n hx hb dX2_turn_0 rfl (lv_at hl 0 rfl) ?_
  refine lv_iconst (v := 0) hx hb dX2_turn_1 (by decide) ?_
  refine x_put (C := RX2) (T := TX2) (N := 14) (ws2 := rC cI cZ o b σ κ ζ 0) hx hb hts in_wsX20 tyX2_ok nmX2 hown hK hP hD hS 0 rfl rfl 0 (by decide) q592 rfl (by decide +kernel) (Nat.le_of_ble_eq_true rfl) rfl dX2_turn_2 (fun H locs hP hD hS => ?_)
  refine lv_aload_n hx hb dX2_turn_5 rfl (lv_at hl 0 rfl) ?_
  refine lv_iload_n hx hb dX2_turn_6 rfl (lv_at hl 1 rfl) ?_
  refine MC.callV (C := RX2) (T := TX2) (N := 14) (As := [.int x]) (rest := []) (wB := rC cI cZ o b σ κ ζ 0) (c_X2_isDrain l D cI cZ cL o b σ κ ζ 0 hst x _ rfl) ⟨hx, hb, hml, hown, hts⟩ q670 b_X2_isDrain (n := 1) (by decide +kernel) ⟨Nat.le_of_ble_eq_true rfl, Nat.le_of_ble_eq_true rfl⟩ hK hP hD hS hA (sp0 _) (sp0 _) (ci := 2) rfl (q0 := 0) rfl rfl hl.1 rfl (Nat.le_of_ble_eq_true rfl) dX2_turn_7 ⟨Nat.le_of_ble_eq_true rfl, Nat.le_of_ble_eq_true rfl⟩ (fun H locs hP hD hS => ?_)
  refine lv_if_ne (tgt := 19) hx hb dX2_turn_10 (by decide) (fun c_10 => ?_) (fun c_10 => ?_)
  · obtain ⟨j, hj, ej⟩ : ∃ j, j < k ∧ x = nI j := by
      rcases hasF_iff hst.f1 (by omega) x with q | q
      · exact absurd q.1 c_10
      · exact q.2
    subst ej
    refine lv_aload_n hx hb dX2_turn_19 rfl (lv_at hl 0 rfl) ?_
    refine x_get (C := RX2) (T := TX2) (N := 14) hx hb hts in_wsX20 hown hK hP 0 rfl rfl 10 (by decide) q602 (v := .ref (b 6)) rfl dX2_turn_20 ?_
    refine lv_iload_n hx hb dX2_turn_23 rfl (lv_at hl 1 rfl) ?_
    refine lv_aload_n hx hb dX2_turn_24 rfl (lv_at hl 0 rfl) ?_
    refine x_get (C := RX2) (T := TX2) (N := 14) hx hb hts in_wsX20 hown hK hP 0 rfl rfl 10 (by decide) q602 (v := .ref (b 6)) rfl dX2_turn_25 ?_
    refine lv_iload_n hx hb dX2_turn_28 rfl (lv_at hl 1 rfl) ?_
    refine x_zld hx hb hK hP 7 1 rfl rfl j (rfl) (by omega) (by decide) (v := σ 10 j) rfl dX2_turn_29 ?_
    have J38_1 : W p l e rmX2_turn s m args below meth c H locs 0 0 Q (F0 m 38 ls [.int (if σ 10 j = 0 then 1 else 0), .int (nI j), .ref (b 6)]) := by
      refine x_zst (ws2 := rC cI cZ o b (turnS σ j) κ ζ 0) hx hb hK hP hD hS 7 1 rfl rfl j (rfl) (by omega) (by decide) (by split; exact Or.inr rfl; exact Or.inl rfl) rfl dX2_turn_38 (fun H locs hP hD hS => ?_)
      refine lv_aload_n hx hb dX2_turn_39 rfl (lv_at hl 0 rfl) ?_
      refine x_get (C := RX2) (T := TX2) (N := 14) hx hb hts in_wsX20 hown hK hP 0 rfl rfl 10 (by decide) q602 (v := .ref (b 6)) rfl dX2_turn_40 ?_
      refine lv_iload_n hx hb dX2_turn_43 rfl (lv_at hl 1 rfl) ?_
      refine x_zld hx hb hK hP 7 1 rfl rfl j (rfl) (by omega) (by decide) (v := (turnS σ j) 10 j) rfl dX2_turn_44 ?_
      subst hQ
      exact rz hx hb hr hlocks hK hP hD hS dX2_turn_45 ((hB.tu j).2.2.2.2.2.2 j (by omega)) (by rw [if_neg c_10, if_neg c_10, nI_clamp (by omega)]) (by rw [if_neg c_10, nI_clamp (by omega)])
    refine lv_if_ne (tgt := 37) hx hb dX2_turn_30 (by decide) (fun c_30 => ?_) (fun c_30 => ?_)
    · refine lv_iconst (v := 0) hx hb dX2_turn_37 (by decide) ?_
      exact x_top (show 0 = if σ 10 j = 0 then 1 else 0 by rw [if_neg c_30]) J38_1
    · refine lv_iconst (v := 1) hx hb dX2_turn_33 (by decide) ?_
      refine lv_goto (tgt := 38) hx hb dX2_turn_34 (by decide) ?_
      exact x_top (show 1 = if σ 10 j = 0 then 1 else 0 by rw [if_pos c_30]) J38_1
  · refine lv_aload_n hx hb dX2_turn_13 rfl (lv_at hl 0 rfl) ?_
    refine lv_iconst (v := 1) hx hb dX2_turn_14 (by decide) ?_
    refine MC.callV (C := RX2) (T := TX2) (N := 14) (As := [.int 1]) (rest := []) (wB := rC cI cZ o b σ κ ζ 1) (c_X2_isNot l D cI cZ cL o b σ κ ζ 0 1) ⟨hx, hb, hml, hown, hts⟩ q674 b_X2_isNot (n := 1) (by decide +kernel) ⟨Nat.le_of_ble_eq_true rfl, Nat.le_of_ble_eq_true rfl⟩ hK hP hD hS hA (sp0 _) (sp0 _) (ci := 2) rfl (q0 := 0) rfl rfl hl.1 rfl (Nat.le_of_ble_eq_true rfl) dX2_turn_15 ⟨Nat.le_of_ble_eq_true rfl, Nat.le_of_ble_eq_true rfl⟩ (fun H locs hP hD hS => ?_)
    subst hQ
    exact rz hx hb hr hlocks hK hP hD hS dX2_turn_18 (by decide) (by rw [if_pos c_10, if_pos c_10]) (by rw [if_pos c_10])

abbrev rmX2_setRain : Room := { frames := 1, cells := 0, slots := 0, locals := 22 }
theorem b_X2_setRain : Cond.instanceMethod yX2_setRain ∈ LW ∧ Cond.selects RX2 yX2_setRain yX2_setRain ∈ LW ∧ Cond.initialized RX2 ∈ LW ∧ Cond.code yX2_setRain cX2_setRain 3 (some .int) ∈ LW := ⟨q679, q680, q40, q681⟩
set_option maxHeartbeats 4000000 in
set_option maxRecDepth 100000 in
theorem c_X2_setRain (l : Launch) (D : va_G) (cI cZ cL : ClassId) {n k : Nat} (o : Nat) (b : Nat → Nat) (σ : Sg) (κ ζ : Nat → Int32) (th : Int32) (hst : Shp n k σ) (x : Int32) : MC l yX2_setRain cX2_setRain 3 (some .int) rmX2_setRain D (tZ cI cZ cL) [.ref o, .int x] (rC cI cZ o b σ κ ζ th) (rC cI cZ o b (if inR x 0 9 = 0 then σ else sc σ 2 x) κ ζ (if inR x 0 9 = 0 then 1 else 0)) (some (.int (if inR x 0 9 = 0 then 0 else σ 11 2))) := by
  refine MC.of (by decide) (Nat.le_of_ble_eq_true rfl) ?_
  intro p e s m args below meth c A ls Q hx hb hml hr hts hown hlocks hA hP hD hK hS hl hQ
  have hown : s.vm.findClass RX2 = some m.cls := hown
  have hn10 := hst.1
  have hk16 := hst.2.1
  have hl : lv_has ls 3 [(0, .ref o), (1, .int x)] := hl
  refine lv_aload_n hx hb dX2_setRain_0 rfl (lv_at hl 0 rfl) ?_
  refine lv_iconst (v := 0) hx hb dX2_setRain_1 (by decide) ?_
  refine x_put (C := RX2) (T := TX2) (N := 14) (ws2 := rC cI cZ o b σ κ ζ 0) hx hb hts in_wsX20 tyX2_ok nmX2 hown hK hP hD hS 0 rfl rfl 0 (by decide) q592 rfl (by decide +kernel) (Nat.le_of_ble_eq_true rfl) rfl dX2_setRain_2 (fun H locs hP hD hS => ?_)
  refine lv_iload_n hx hb dX2_setRain_5 rfl (lv_at hl 1 rfl) ?_
  refine lv_iconst (v := 0) hx hb dX2_setRain_6 (by decide) ?_
  refine lv_bipush (v := 9) hx hb dX2_setRain_7 (by decide) ?_
  refine MC.callS (As := [.int x, .int 0, .int 9]) (rest := []) (wB := rC cI cZ o b σ κ ζ 0) (c_X2_isIn l D cI cZ cL x 0 9) ⟨hx, hb, hml, hown, hts⟩ q643 b_X2_isIn (n := 3) (by decide +kernel) ⟨Nat.le_of_ble_eq_true rfl, Nat.le_of_ble_eq_true rfl⟩ hK hP hD hS hA (spE _) (spE _) rfl hl.1 rfl (Nat.le_of_ble_eq_true rfl) dX2_setRain_9 ⟨Nat.le_of_ble_eq_true rfl, Nat.le_of_ble_eq_true rfl⟩ (fun H locs hP hD hS => ?_)
  refine lv_if_ne (tgt := 21) hx hb dX2_setRain_12 (by decide) (fun c_12 => ?_) (fun c_12 => ?_)
  · refine lv_aload_n hx hb dX2_setRain_21 rfl (lv_at hl 0 rfl) ?_
    refine x_get (C := RX2) (T := TX2) (N := 14) hx hb hts in_wsX20 hown hK hP 0 rfl rfl 3 (by decide) q595 (v := .int (σ 11 2)) rfl dX2_setRain_22 ?_
    refine lv_istore_n (lv' := [(2, .int (σ 11 2)), (0, .ref o), (1, .int x)]) hx hb dX2_setRain_25 rfl hl (by decide) rfl (fun ls hl => ?_)
    refine lv_aload_n hx hb dX2_setRain_26 rfl (lv_at hl 1 rfl) ?_
    refine lv_iload_n hx hb dX2_setRain_27 rfl (lv_at hl 2 rfl) ?_
    refine x_put (C := RX2) (T := TX2) (N := 14) (ws2 := rC cI cZ o b (sc σ 2 x) κ ζ 0) hx hb hts in_wsX20 tyX2_ok nmX2 hown hK hP hD hS 0 rfl rfl 3 (by decide) q595 rfl (by decide +kernel) (Nat.le_of_ble_eq_true rfl) rfl dX2_setRain_28 (fun H locs hP hD hS => ?_)
    refine lv_iload_n hx hb dX2_setRain_31 rfl (lv_at hl 0 rfl) ?_
    subst hQ
    exact ri hx hb hr hlocks hK hP hD hS dX2_setRain_32 (by rw [if_neg c_12, if_neg c_12]) (by rw [if_neg c_12])
  · refine lv_aload_n hx hb dX2_setRain_15 rfl (lv_at hl 0 rfl) ?_
    refine lv_iconst (v := 1) hx hb dX2_setRain_16 (by decide) ?_
    refine MC.callV (C := RX2) (T := TX2) (N := 14) (As := [.int 1]) (rest := []) (wB := rC cI cZ o b σ κ ζ 1) (c_X2_no l D cI cZ cL o b σ κ ζ 0 1) ⟨hx, hb, hml, hown, hts⟩ q646 b_X2_no (n := 1) (by decide +kernel) ⟨Nat.le_of_ble_eq_true rfl, Nat.le_of_ble_eq_true rfl⟩ hK hP hD hS hA (sp0 _) (sp0 _) (ci := 2) rfl (q0 := 0) rfl rfl hl.1 rfl (Nat.le_of_ble_eq_true rfl) dX2_setRain_17 ⟨Nat.le_of_ble_eq_true rfl, Nat.le_of_ble_eq_true rfl⟩ (fun H locs hP hD hS => ?_)
    subst hQ
    exact ri hx hb hr hlocks hK hP hD hS dX2_setRain_20 (by rw [if_pos c_12, if_pos c_12]) (by rw [if_pos c_12])

abbrev rmX2_pass : Room := { frames := 6, cells := 0, slots := 0, locals := 148 }
theorem b_X2_pass : Cond.instanceMethod yX2_pass ∈ LW ∧ Cond.selects RX2 yX2_pass yX2_pass ∈ LW ∧ Cond.initialized RX2 ∈ LW ∧ Cond.code yX2_pass cX2_pass 3 (some .int) ∈ LW := ⟨q691, q692, q40, q693⟩
set_option maxHeartbeats 4000000 in
set_option maxRecDepth 100000 in
theorem c_X2_pass (l : Launch) (D : va_G) (cI cZ cL : ClassId) {n k : Nat} (o : Nat) (b : Nat → Nat) (σ : Sg) (κ ζ : Nat → Int32) (th : Int32) (hst : Shp n k σ) {B : Nat} (hB : Bnd B σ) (hB2 : B + 12000 < 2 ^ 29) (x : Int32) : MC l yX2_pass cX2_pass 3 (some .int) rmX2_pass D (tZ cI cZ cL) [.ref o, .int x] (rC cI cZ o b σ κ ζ th) (rC cI cZ o b (if inR x 1 48 = 0 then σ else hours x.toNatClampNeg σ) κ ζ (if inR x 1 48 = 0 then 1 else 0)) (some (.int (if inR x 1 48 = 0 then 0 else ruinN (hours x.toNatClampNeg σ) - ruinN σ))) := by
  refine MC.of (by decide) (Nat.le_of_ble_eq_true rfl) ?_
  intro p e s m args below meth c A ls Q hx hb hml hr hts hown hlocks hA hP hD hK hS hl hQ
  have hown : s.vm.findClass RX2 = some m.cls := hown
  have hn10 := hst.1
  have hk16 := hst.2.1
  have hl : lv_has ls 3 [(0, .ref o), (1, .int x)] := hl
  refine lv_aload_n hx hb dX2_pass_0 rfl (lv_at hl 0 rfl) ?_
  refine lv_iconst (v := 0) hx hb dX2_pass_1 (by decide) ?_
  refine x_put (C := RX2) (T := TX2) (N := 14) (ws2 := rC cI cZ o b σ κ ζ 0) hx hb hts in_wsX20 tyX2_ok nmX2 hown hK hP hD hS 0 rfl rfl 0 (by decide) q592 rfl (by decide +kernel) (Nat.le_of_ble_eq_true rfl) rfl dX2_pass_2 (fun H locs hP hD hS => ?_)
  refine lv_iload_n hx hb dX2_pass_5 rfl (lv_at hl 1 rfl) ?_
  refine lv_iconst (v := 1) hx hb dX2_pass_6 (by decide) ?_
  refine lv_bipush (v := 48) hx hb dX2_pass_7 (by decide) ?_
  refine MC.callS (As := [.int x, .int 1, .int 48]) (rest := []) (wB := rC cI cZ o b σ κ ζ 0) (c_X2_isIn l D cI cZ cL x 1 48) ⟨hx, hb, hml, hown, hts⟩ q643 b_X2_isIn (n := 3) (by decide +kernel) ⟨Nat.le_of_ble_eq_true rfl, Nat.le_of_ble_eq_true rfl⟩ hK hP hD hS hA (spE _) (spE _) rfl hl.1 rfl (Nat.le_of_ble_eq_true rfl) dX2_pass_9 ⟨Nat.le_of_ble_eq_true rfl, Nat.le_of_ble_eq_true rfl⟩ (fun H locs hP hD hS => ?_)
  refine lv_if_ne (tgt := 21) hx hb dX2_pass_12 (by decide) (fun c_12 => ?_) (fun c_12 => ?_)
  · obtain ⟨t, hta, htb, et⟩ := inR_n 1 48 (by decide) x c_12
    subst et
    refine lv_aload_n hx hb dX2_pass_21 rfl (lv_at hl 0 rfl) ?_
    refine MC.callV (C := RX2) (T := TX2) (N := 14) (As := []) (rest := []) (wB := rC cI cZ o b σ κ ζ 0) (c_X2_ruined l D cI cZ cL o b σ κ ζ 0 hst hB) ⟨hx, hb, hml, hown, hts⟩ q694 b_X2_ruined (n := 0) (by decide +kernel) ⟨Nat.le_of_ble_eq_true rfl, Nat.le_of_ble_eq_true rfl⟩ hK hP hD hS hA (sp0 _) (sp0 _) (ci := 2) rfl (q0 := 0) rfl rfl hl.1 rfl (Nat.le_of_ble_eq_true rfl) dX2_pass_22 ⟨Nat.le_of_ble_eq_true rfl, Nat.le_of_ble_eq_true rfl⟩ (fun H locs hP hD hS => ?_)
    refine lv_istore_n (lv' := [(2, .int (ruinN σ)), (0, .ref o), (1, .int (nI t))]) hx hb dX2_pass_25 rfl hl (by decide) rfl (fun ls hl => ?_)
    refine lv_aload_n hx hb dX2_pass_26 rfl (lv_at hl 1 rfl) ?_
    refine lv_iload_n hx hb dX2_pass_27 rfl (lv_at hl 2 rfl) ?_
    refine MC.callV (C := RX2) (T := TX2) (N := 14) (As := [.int (nI t)]) (rest := []) (wB := rC cI cZ o b (hours t σ) κ ζ 0) (c_X2_hoursOn l D cI cZ cL o b σ κ ζ 0 hst hB t (by omega)) ⟨hx, hb, hml, hown, hts⟩ q698 b_X2_hoursOn (n := 1) (by decide +kernel) ⟨Nat.le_of_ble_eq_true rfl, Nat.le_of_ble_eq_true rfl⟩ hK hP hD hS hA (sp0 _) (sp0 _) (ci := 2) rfl (q0 := 0) rfl rfl hl.1 rfl (Nat.le_of_ble_eq_true rfl) dX2_pass_28 ⟨Nat.le_of_ble_eq_true rfl, Nat.le_of_ble_eq_true rfl⟩ (fun H locs hP hD hS => ?_)
    refine lv_aload_n hx hb dX2_pass_31 rfl (lv_at hl 1 rfl) ?_
    refine MC.callV (C := RX2) (T := TX2) (N := 14) (As := []) (rest := []) (wB := rC cI cZ o b (hours t σ) κ ζ 0) (c_X2_ruined l D cI cZ cL o b (hours t σ) κ ζ 0 (hst.hrs t) (Bnd.hrs hst hB t (by omega))) ⟨hx, hb, hml, hown, hts⟩ q694 b_X2_ruined (n := 0) (by decide +kernel) ⟨Nat.le_of_ble_eq_true rfl, Nat.le_of_ble_eq_true rfl⟩ hK hP hD hS hA (sp0 _) (sp0 _) (ci := 2) rfl (q0 := 0) rfl rfl hl.1 rfl (Nat.le_of_ble_eq_true rfl) dX2_pass_32 ⟨Nat.le_of_ble_eq_true rfl, Nat.le_of_ble_eq_true rfl⟩ (fun H locs hP hD hS => ?_)
    refine lv_iload_n hx hb dX2_pass_35 rfl (lv_at hl 0 rfl) ?_
    refine lv_isub hx hb dX2_pass_36 ?_
    subst hQ
    exact ri hx hb hr hlocks hK hP hD hS dX2_pass_37 (by rw [if_neg c_12, if_neg c_12, nI_clamp (by omega)]) (by rw [if_neg c_12, nI_clamp (by omega)])
  · refine lv_aload_n hx hb dX2_pass_15 rfl (lv_at hl 0 rfl) ?_
    refine lv_iconst (v := 1) hx hb dX2_pass_16 (by decide) ?_
    refine MC.callV (C := RX2) (T := TX2) (N := 14) (As := [.int 1]) (rest := []) (wB := rC cI cZ o b σ κ ζ 1) (c_X2_no l D cI cZ cL o b σ κ ζ 0 1) ⟨hx, hb, hml, hown, hts⟩ q646 b_X2_no (n := 1) (by decide +kernel) ⟨Nat.le_of_ble_eq_true rfl, Nat.le_of_ble_eq_true rfl⟩ hK hP hD hS hA (sp0 _) (sp0 _) (ci := 2) rfl (q0 := 0) rfl rfl hl.1 rfl (Nat.le_of_ble_eq_true rfl) dX2_pass_17 ⟨Nat.le_of_ble_eq_true rfl, Nat.le_of_ble_eq_true rfl⟩ (fun H locs hP hD hS => ?_)
    subst hQ
    exact ri hx hb hr hlocks hK hP hD hS dX2_pass_20 (by rw [if_pos c_12, if_pos c_12]) (by rw [if_pos c_12])

abbrev rmX2_lossIn : Room := { frames := 7, cells := 0, slots := 0, locals := 172 }
theorem b_X2_lossIn : Cond.instanceMethod yX2_lossIn ∈ LW ∧ Cond.selects RX2 yX2_lossIn yX2_lossIn ∈ LW ∧ Cond.initialized RX2 ∈ LW ∧ Cond.code yX2_lossIn cX2_lossIn 2 (some .int) ∈ LW := ⟨q864, q865, q40, q866⟩
set_option maxHeartbeats 4000000 in
set_option maxRecDepth 100000 in
theorem c_X2_lossIn (l : Launch) (D : va_G) (cI cZ cL : ClassId) {n k : Nat} (o : Nat) (b : Nat → Nat) (σ : Sg) (κ ζ : Nat → Int32) (th : Int32) (hst : Shp n k σ) {B : Nat} (hB : Bnd B σ) (hB2 : B + 12000 < 2 ^ 29) (x : Int32) : MC l yX2_lossIn cX2_lossIn 2 (some .int) rmX2_lossIn D (tZ cI cZ cL) [.ref o, .int x] (rC cI cZ o b σ κ ζ th) (rC cI cZ o b σ (if inR x 1 48 = 0 then κ else nowF σ) ζ (if inR x 1 48 = 0 then 1 else 0)) (some (.int (if inR x 1 48 = 0 then 0 else lossH x.toNatClampNeg σ))) := by
  refine MC.of (by decide) (Nat.le_of_ble_eq_true rfl) ?_
  intro p e s m args below meth c A ls Q hx hb hml hr hts hown hlocks hA hP hD hK hS hl hQ
  have hown : s.vm.findClass RX2 = some m.cls := hown
  have hn10 := hst.1
  have hk16 := hst.2.1
  have hl : lv_has ls 2 [(0, .ref o), (1, .int x)] := hl
  refine lv_aload_n hx hb dX2_lossIn_0 rfl (lv_at hl 0 rfl) ?_
  refine lv_iconst (v := 0) hx hb dX2_lossIn_1 (by decide) ?_
  refine x_put (C := RX2) (T := TX2) (N := 14) (ws2 := rC cI cZ o b σ κ ζ 0) hx hb hts in_wsX20 tyX2_ok nmX2 hown hK hP hD hS 0 rfl rfl 0 (by decide) q592 rfl (by decide +kernel) (Nat.le_of_ble_eq_true rfl) rfl dX2_lossIn_2 (fun H locs hP hD hS => ?_)
  refine lv_iload_n hx hb dX2_lossIn_5 rfl (lv_at hl 1 rfl) ?_
  refine lv_iconst (v := 1) hx hb dX2_lossIn_6 (by decide) ?_
  refine lv_bipush (v := 48) hx hb dX2_lossIn_7 (by decide) ?_
  refine MC.callS (As := [.int x, .int 1, .int 48]) (rest := []) (wB := rC cI cZ o b σ κ ζ 0) (c_X2_isIn l D cI cZ cL x 1 48) ⟨hx, hb, hml, hown, hts⟩ q643 b_X2_isIn (n := 3) (by decide +kernel) ⟨Nat.le_of_ble_eq_true rfl, Nat.le_of_ble_eq_true rfl⟩ hK hP hD hS hA (spE _) (spE _) rfl hl.1 rfl (Nat.le_of_ble_eq_true rfl) dX2_lossIn_9 ⟨Nat.le_of_ble_eq_true rfl, Nat.le_of_ble_eq_true rfl⟩ (fun H locs hP hD hS => ?_)
  refine lv_if_eq (tgt := 25) hx hb dX2_lossIn_12 (by decide) (fun c_12 => ?_) (fun c_12 => ?_)
  · refine lv_aload_n hx hb dX2_lossIn_25 rfl (lv_at hl 0 rfl) ?_
    refine lv_iconst (v := 1) hx hb dX2_lossIn_26 (by decide) ?_
    refine MC.callV (C := RX2) (T := TX2) (N := 14) (As := [.int 1]) (rest := []) (wB := rC cI cZ o b σ κ ζ 1) (c_X2_no l D cI cZ cL o b σ κ ζ 0 1) ⟨hx, hb, hml, hown, hts⟩ q646 b_X2_no (n := 1) (by decide +kernel) ⟨Nat.le_of_ble_eq_true rfl, Nat.le_of_ble_eq_true rfl⟩ hK hP hD hS hA (sp0 _) (sp0 _) (ci := 2) rfl (q0 := 0) rfl rfl hl.1 rfl (Nat.le_of_ble_eq_true rfl) dX2_lossIn_27 ⟨Nat.le_of_ble_eq_true rfl, Nat.le_of_ble_eq_true rfl⟩ (fun H locs hP hD hS => ?_)
    subst hQ
    exact ri hx hb hr hlocks hK hP hD hS dX2_lossIn_30 (by rw [if_pos c_12, if_pos c_12]) (by rw [if_pos c_12])
  · obtain ⟨t, hta, htb, et⟩ := inR_n 1 48 (by decide) x c_12
    subst et
    refine lv_aload_n hx hb dX2_lossIn_15 rfl (lv_at hl 0 rfl) ?_
    refine lv_iload_n hx hb dX2_lossIn_16 rfl (lv_at hl 1 rfl) ?_
    refine lv_iconst (v := (-1)) hx hb dX2_lossIn_17 (by decide) ?_
    refine lv_iconst (v := 0) hx hb dX2_lossIn_18 (by decide) ?_
    refine MC.callV (C := RX2) (T := TX2) (N := 14) (As := [.int (nI t), .int (-1), .int 0]) (rest := []) (wB := rC cI cZ o b σ (nowF σ) ζ 0) (c_X2_lostBehind_a l D cI cZ cL o b σ κ ζ 0 hst hB t (by omega) 0) ⟨hx, hb, hml, hown, hts⟩ q867 b_X2_lostBehind (n := 3) (by decide +kernel) ⟨Nat.le_of_ble_eq_true rfl, Nat.le_of_ble_eq_true rfl⟩ hK hP hD hS hA (sp0 _) (sp0 _) (ci := 2) rfl (q0 := 0) rfl rfl hl.1 rfl (Nat.le_of_ble_eq_true rfl) dX2_lossIn_19 ⟨Nat.le_of_ble_eq_true rfl, Nat.le_of_ble_eq_true rfl⟩ (fun H locs hP hD hS => ?_)
    refine lv_goto (tgt := 30) hx hb dX2_lossIn_22 (by decide) ?_
    subst hQ
    exact ri hx hb hr hlocks hK hP hD hS dX2_lossIn_30 (by rw [if_neg c_12, if_neg c_12]) (by rw [if_neg c_12, nI_clamp (by omega)])

abbrev rmX2_bestToFlood : Room := { frames := 8, cells := 0, slots := 0, locals := 197 }
theorem b_X2_bestToFlood : Cond.instanceMethod yX2_bestToFlood ∈ LW ∧ Cond.selects RX2 yX2_bestToFlood yX2_bestToFlood ∈ LW ∧ Cond.initialized RX2 ∈ LW ∧ Cond.code yX2_bestToFlood cX2_bestToFlood 2 (some .int) ∈ LW := ⟨q884, q885, q40, q886⟩
set_option maxHeartbeats 4000000 in
set_option maxRecDepth 100000 in
theorem c_X2_bestToFlood (l : Launch) (D : va_G) (cI cZ cL : ClassId) {n k : Nat} (o : Nat) (b : Nat → Nat) (σ : Sg) (κ ζ : Nat → Int32) (th : Int32) (hst : Shp n k σ) {B : Nat} (hB : Bnd B σ) (hB2 : B + 12000 < 2 ^ 29) (x : Int32) : MC l yX2_bestToFlood cX2_bestToFlood 2 (some .int) rmX2_bestToFlood D (tZ cI cZ cL) [.ref o, .int x] (rC cI cZ o b σ κ ζ th) (rC cI cZ o b σ (if inR x 1 50 = 0 then κ else kF κ (nowF σ) n) ζ (if inR x 1 50 = 0 then 1 else 0)) (some (.int (if inR x 1 50 = 0 then 0 else floodB σ x))) := by
  refine MC.of (by decide) (Nat.le_of_ble_eq_true rfl) ?_
  intro p e s m args below meth c A ls Q hx hb hml hr hts hown hlocks hA hP hD hK hS hl hQ
  have hown : s.vm.findClass RX2 = some m.cls := hown
  have hn10 := hst.1
  have hk16 := hst.2.1
  have hl : lv_has ls 2 [(0, .ref o), (1, .int x)] := hl
  refine lv_aload_n hx hb dX2_bestToFlood_0 rfl (lv_at hl 0 rfl) ?_
  refine lv_iconst (v := 0) hx hb dX2_bestToFlood_1 (by decide) ?_
  refine x_put (C := RX2) (T := TX2) (N := 14) (ws2 := rC cI cZ o b σ κ ζ 0) hx hb hts in_wsX20 tyX2_ok nmX2 hown hK hP hD hS 0 rfl rfl 0 (by decide) q592 rfl (by decide +kernel) (Nat.le_of_ble_eq_true rfl) rfl dX2_bestToFlood_2 (fun H locs hP hD hS => ?_)
  refine lv_iload_n hx hb dX2_bestToFlood_5 rfl (lv_at hl 1 rfl) ?_
  refine lv_iconst (v := 1) hx hb dX2_bestToFlood_6 (by decide) ?_
  refine lv_bipush (v := 50) hx hb dX2_bestToFlood_7 (by decide) ?_
  refine MC.callS (As := [.int x, .int 1, .int 50]) (rest := []) (wB := rC cI cZ o b σ κ ζ 0) (c_X2_isIn l D cI cZ cL x 1 50) ⟨hx, hb, hml, hown, hts⟩ q643 b_X2_isIn (n := 3) (by decide +kernel) ⟨Nat.le_of_ble_eq_true rfl, Nat.le_of_ble_eq_true rfl⟩ hK hP hD hS hA (spE _) (spE _) rfl hl.1 rfl (Nat.le_of_ble_eq_true rfl) dX2_bestToFlood_9 ⟨Nat.le_of_ble_eq_true rfl, Nat.le_of_ble_eq_true rfl⟩ (fun H locs hP hD hS => ?_)
  refine lv_if_eq (tgt := 23) hx hb dX2_bestToFlood_12 (by decide) (fun c_12 => ?_) (fun c_12 => ?_)
  · refine lv_aload_n hx hb dX2_bestToFlood_23 rfl (lv_at hl 0 rfl) ?_
    refine lv_iconst (v := 1) hx hb dX2_bestToFlood_24 (by decide) ?_
    refine MC.callV (C := RX2) (T := TX2) (N := 14) (As := [.int 1]) (rest := []) (wB := rC cI cZ o b σ κ ζ 1) (c_X2_no l D cI cZ cL o b σ κ ζ 0 1) ⟨hx, hb, hml, hown, hts⟩ q646 b_X2_no (n := 1) (by decide +kernel) ⟨Nat.le_of_ble_eq_true rfl, Nat.le_of_ble_eq_true rfl⟩ hK hP hD hS hA (sp0 _) (sp0 _) (ci := 2) rfl (q0 := 0) rfl rfl hl.1 rfl (Nat.le_of_ble_eq_true rfl) dX2_bestToFlood_25 ⟨Nat.le_of_ble_eq_true rfl, Nat.le_of_ble_eq_true rfl⟩ (fun H locs hP hD hS => ?_)
    subst hQ
    exact ri hx hb hr hlocks hK hP hD hS dX2_bestToFlood_28 (by rw [if_pos c_12, if_pos c_12]) (by rw [if_pos c_12])
  · obtain ⟨t, hta, htb, et⟩ := inR_n 1 50 (by decide) x c_12
    subst et
    refine lv_aload_n hx hb dX2_bestToFlood_15 rfl (lv_at hl 0 rfl) ?_
    refine lv_iload_n hx hb dX2_bestToFlood_16 rfl (lv_at hl 1 rfl) ?_
    refine MC.callV (C := RX2) (T := TX2) (N := 14) (As := [.int (nI t)]) (rest := []) (wB := rC cI cZ o b σ (kF κ (nowF σ) n) ζ 0) (c_X2_flooded l D cI cZ cL o b σ κ ζ 0 hst hB (by omega) t (by omega)) ⟨hx, hb, hml, hown, hts⟩ q887 b_X2_flooded (n := 1) (by decide +kernel) ⟨Nat.le_of_ble_eq_true rfl, Nat.le_of_ble_eq_true rfl⟩ hK hP hD hS hA (sp0 _) (sp0 _) (ci := 2) rfl (q0 := 0) rfl rfl hl.1 rfl (Nat.le_of_ble_eq_true rfl) dX2_bestToFlood_17 ⟨Nat.le_of_ble_eq_true rfl, Nat.le_of_ble_eq_true rfl⟩ (fun H locs hP hD hS => ?_)
    refine lv_goto (tgt := 28) hx hb dX2_bestToFlood_20 (by decide) ?_
    subst hQ
    exact ri hx hb hr hlocks hK hP hD hS dX2_bestToFlood_28 (by rw [if_neg c_12, if_neg c_12]) (by rw [if_neg c_12])

abbrev rmX2_flood : Room := { frames := 2, cells := 0, slots := 0, locals := 43 }
theorem b_X2_flood : Cond.instanceMethod yX2_flood ∈ LW ∧ Cond.selects RX2 yX2_flood yX2_flood ∈ LW ∧ Cond.initialized RX2 ∈ LW ∧ Cond.code yX2_flood cX2_flood 3 (some .int) ∈ LW := ⟨q683, q684, q40, q685⟩
set_option maxHeartbeats 4000000 in
set_option maxRecDepth 100000 in
theorem c_X2_flood (l : Launch) (D : va_G) (cI cZ cL : ClassId) {n k : Nat} (o : Nat) (b : Nat → Nat) (σ : Sg) (κ ζ : Nat → Int32) (th : Int32) (hst : Shp n k σ) {B : Nat} (hB : Bnd B σ) (x y : Int32) : MC l yX2_flood cX2_flood 3 (some .int) rmX2_flood D (tZ cI cZ cL) [.ref o, .int x, .int y] (rC cI cZ o b σ κ ζ th) (rC cI cZ o b (if hasF 0 σ x = 0 then σ else if inR y 1 50 = 0 then σ else addW σ x.toNatClampNeg y) κ ζ (if hasF 0 σ x = 0 then 1 else if inR y 1 50 = 0 then 2 else 0)) (some (.int (if hasF 0 σ x = 0 then 0 else if inR y 1 50 = 0 then 0 else addW σ x.toNatClampNeg y 2 x.toNatClampNeg))) := by
  refine MC.of (by decide) (Nat.le_of_ble_eq_true rfl) ?_
  intro p e s m args below meth c A ls Q hx hb hml hr hts hown hlocks hA hP hD hK hS hl hQ
  have hown : s.vm.findClass RX2 = some m.cls := hown
  have hn10 := hst.1
  have hk16 := hst.2.1
  have hl : lv_has ls 3 [(0, .ref o), (1, .int x), (2, .int y)] := hl
  refine lv_aload_n hx hb dX2_flood_0 rfl (lv_at hl 0 rfl) ?_
  refine lv_iconst (v := 0) hx hb dX2_flood_1 (by decide) ?_
  refine x_put (C := RX2) (T := TX2) (N := 14) (ws2 := rC cI cZ o b σ κ ζ 0) hx hb hts in_wsX20 tyX2_ok nmX2 hown hK hP hD hS 0 rfl rfl 0 (by decide) q592 rfl (by decide +kernel) (Nat.le_of_ble_eq_true rfl) rfl dX2_flood_2 (fun H locs hP hD hS => ?_)
  refine lv_aload_n hx hb dX2_flood_5 rfl (lv_at hl 0 rfl) ?_
  refine lv_iload_n hx hb dX2_flood_6 rfl (lv_at hl 1 rfl) ?_
  refine MC.callV (C := RX2) (T := TX2) (N := 14) (As := [.int x]) (rest := []) (wB := rC cI cZ o b σ κ ζ 0) (c_X2_isField l D cI cZ cL o b σ κ ζ 0 hst x _ rfl) ⟨hx, hb, hml, hown, hts⟩ q654 b_X2_isField (n := 1) (by decide +kernel) ⟨Nat.le_of_ble_eq_true rfl, Nat.le_of_ble_eq_true rfl⟩ hK hP hD hS hA (sp0 _) (sp0 _) (ci := 2) rfl (q0 := 0) rfl rfl hl.1 rfl (Nat.le_of_ble_eq_true rfl) dX2_flood_7 ⟨Nat.le_of_ble_eq_true rfl, Nat.le_of_ble_eq_true rfl⟩ (fun H locs hP hD hS => ?_)
  refine lv_if_ne (tgt := 19) hx hb dX2_flood_10 (by decide) (fun c_10 => ?_) (fun c_10 => ?_)
  · obtain ⟨j, hj, ej⟩ : ∃ j, j < n ∧ x = nI j := by
      rcases hasF_iff hst.f0 (by omega) x with q | q
      · exact absurd q.1 c_10
      · exact q.2
    subst ej
    refine lv_iload_n hx hb dX2_flood_19 rfl (lv_at hl 2 rfl) ?_
    refine lv_iconst (v := 1) hx hb dX2_flood_20 (by decide) ?_
    refine lv_bipush (v := 50) hx hb dX2_flood_21 (by decide) ?_
    refine MC.callS (As := [.int y, .int 1, .int 50]) (rest := []) (wB := rC cI cZ o b σ κ ζ 0) (c_X2_isIn l D cI cZ cL y 1 50) ⟨hx, hb, hml, hown, hts⟩ q643 b_X2_isIn (n := 3) (by decide +kernel) ⟨Nat.le_of_ble_eq_true rfl, Nat.le_of_ble_eq_true rfl⟩ hK hP hD hS hA (spE _) (spE _) rfl hl.1 rfl (Nat.le_of_ble_eq_true rfl) dX2_flood_23 ⟨Nat.le_of_ble_eq_true rfl, Nat.le_of_ble_eq_true rfl⟩ (fun H locs hP hD hS => ?_)
    refine lv_if_ne (tgt := 35) hx hb dX2_flood_26 (by decide) (fun c_26 => ?_) (fun c_26 => ?_)
    · refine lv_aload_n hx hb dX2_flood_35 rfl (lv_at hl 0 rfl) ?_
      refine x_get (C := RX2) (T := TX2) (N := 14) hx hb hts in_wsX20 hown hK hP 0 rfl rfl 11 (by decide) q603 (v := .ref (b 7)) rfl dX2_flood_36 ?_
      refine lv_iconst (v := 2) hx hb dX2_flood_39 (by decide) ?_
      refine lv_iload_n hx hb dX2_flood_40 rfl (lv_at hl 1 rfl) ?_
      refine lv_iadd hx hb dX2_flood_41 ?_
      refine lv_dup2_11 hx hb dX2_flood_42 rfl rfl ?_
      refine x_ild hx hb hK hP 8 0 rfl rfl (2 + j) (nI_add 2 j) (by omega) (by decide) (v := σ 2 j) (nw_2 σ (by omega)) dX2_flood_43 ?_
      refine lv_iload_n hx hb dX2_flood_44 rfl (lv_at hl 2 rfl) ?_
      refine lv_iadd hx hb dX2_flood_45 ?_
      refine x_ist (ws2 := rC cI cZ o b (addW σ j y) κ ζ 0) hx hb hK hP hD hS 8 0 rfl rfl (2 + j) (nI_add 2 j) (by omega) (by decide) (by rw [nwu_2 σ (f := j) ((σ 2 j) + y) (by omega)]; rfl) dX2_flood_46 (fun H locs hP hD hS => ?_)
      refine lv_aload_n hx hb dX2_flood_47 rfl (lv_at hl 0 rfl) ?_
      refine lv_iload_n hx hb dX2_flood_48 rfl (lv_at hl 1 rfl) ?_
      refine MC.callV (C := RX2) (T := TX2) (N := 14) (As := [.int (nI j)]) (rest := []) (wB := rC cI cZ o b (addW σ j y) κ ζ 0) (c_X2_water l D cI cZ cL o b (addW σ j y) κ ζ 0 j (by omega)) ⟨hx, hb, hml, hown, hts⟩ q686 b_X2_water (n := 1) (by decide +kernel) ⟨Nat.le_of_ble_eq_true rfl, Nat.le_of_ble_eq_true rfl⟩ hK hP hD hS hA (sp0 _) (sp0 _) (ci := 2) rfl (q0 := 0) rfl rfl hl.1 rfl (Nat.le_of_ble_eq_true rfl) dX2_flood_49 ⟨Nat.le_of_ble_eq_true rfl, Nat.le_of_ble_eq_true rfl⟩ (fun H locs hP hD hS => ?_)
      subst hQ
      exact ri hx hb hr hlocks hK hP hD hS dX2_flood_52 (by rw [if_neg c_10, if_neg c_26, if_neg c_10, if_neg c_26, nI_clamp (by omega)]) (by rw [if_neg c_10, if_neg c_26, nI_clamp (by omega)])
    · refine lv_aload_n hx hb dX2_flood_29 rfl (lv_at hl 0 rfl) ?_
      refine lv_iconst (v := 2) hx hb dX2_flood_30 (by decide) ?_
      refine MC.callV (C := RX2) (T := TX2) (N := 14) (As := [.int 2]) (rest := []) (wB := rC cI cZ o b σ κ ζ 2) (c_X2_no l D cI cZ cL o b σ κ ζ 0 2) ⟨hx, hb, hml, hown, hts⟩ q646 b_X2_no (n := 1) (by decide +kernel) ⟨Nat.le_of_ble_eq_true rfl, Nat.le_of_ble_eq_true rfl⟩ hK hP hD hS hA (sp0 _) (sp0 _) (ci := 2) rfl (q0 := 0) rfl rfl hl.1 rfl (Nat.le_of_ble_eq_true rfl) dX2_flood_31 ⟨Nat.le_of_ble_eq_true rfl, Nat.le_of_ble_eq_true rfl⟩ (fun H locs hP hD hS => ?_)
      subst hQ
      exact ri hx hb hr hlocks hK hP hD hS dX2_flood_34 (by rw [if_neg c_10, if_pos c_26, if_neg c_10, if_pos c_26]) (by rw [if_neg c_10, if_pos c_26])
  · refine lv_aload_n hx hb dX2_flood_13 rfl (lv_at hl 0 rfl) ?_
    refine lv_iconst (v := 1) hx hb dX2_flood_14 (by decide) ?_
    refine MC.callV (C := RX2) (T := TX2) (N := 14) (As := [.int 1]) (rest := []) (wB := rC cI cZ o b σ κ ζ 1) (c_X2_no l D cI cZ cL o b σ κ ζ 0 1) ⟨hx, hb, hml, hown, hts⟩ q646 b_X2_no (n := 1) (by decide +kernel) ⟨Nat.le_of_ble_eq_true rfl, Nat.le_of_ble_eq_true rfl⟩ hK hP hD hS hA (sp0 _) (sp0 _) (ci := 2) rfl (q0 := 0) rfl rfl hl.1 rfl (Nat.le_of_ble_eq_true rfl) dX2_flood_15 ⟨Nat.le_of_ble_eq_true rfl, Nat.le_of_ble_eq_true rfl⟩ (fun H locs hP hD hS => ?_)
    subst hQ
    exact ri hx hb hr hlocks hK hP hD hS dX2_flood_18 (by rw [if_pos c_10, if_pos c_10]) (by rw [if_pos c_10])

abbrev rmX2_waterIn : Room := { frames := 6, cells := 0, slots := 0, locals := 148 }
theorem b_X2_waterIn : Cond.instanceMethod yX2_waterIn ∈ LW ∧ Cond.selects RX2 yX2_waterIn yX2_waterIn ∈ LW ∧ Cond.initialized RX2 ∈ LW ∧ Cond.code yX2_waterIn cX2_waterIn 4 (some .int) ∈ LW := ⟨q872, q873, q40, q874⟩
set_option maxHeartbeats 4000000 in
set_option maxRecDepth 100000 in
theorem c_X2_waterIn (l : Launch) (D : va_G) (cI cZ cL : ClassId) {n k : Nat} (o : Nat) (b : Nat → Nat) (σ : Sg) (κ ζ : Nat → Int32) (th : Int32) (hst : Shp n k σ) {B : Nat} (hB : Bnd B σ) (hB2 : B + 12000 < 2 ^ 29) (x y : Int32) : MC l yX2_waterIn cX2_waterIn 4 (some .int) rmX2_waterIn D (tZ cI cZ cL) [.ref o, .int x, .int y] (rC cI cZ o b σ κ ζ th) (rC cI cZ o b σ (if hasF 0 σ x = 0 then κ else if inR y 1 48 = 0 then κ else nowF σ) ζ (if hasF 0 σ x = 0 then 1 else if inR y 1 48 = 0 then 2 else 0)) (some (.int (if hasF 0 σ x = 0 then 0 else if inR y 1 48 = 0 then 0 else hours y.toNatClampNeg σ 2 x.toNatClampNeg))) := by
  refine MC.of (by decide) (Nat.le_of_ble_eq_true rfl) ?_
  intro p e s m args below meth c A ls Q hx hb hml hr hts hown hlocks hA hP hD hK hS hl hQ
  have hown : s.vm.findClass RX2 = some m.cls := hown
  have hn10 := hst.1
  have hk16 := hst.2.1
  have hl : lv_has ls 4 [(0, .ref o), (1, .int x), (2, .int y)] := hl
  refine lv_aload_n hx hb dX2_waterIn_0 rfl (lv_at hl 0 rfl) ?_
  refine lv_iconst (v := 0) hx hb dX2_waterIn_1 (by decide) ?_
  refine x_put (C := RX2) (T := TX2) (N := 14) (ws2 := rC cI cZ o b σ κ ζ 0) hx hb hts in_wsX20 tyX2_ok nmX2 hown hK hP hD hS 0 rfl rfl 0 (by decide) q592 rfl (by decide +kernel) (Nat.le_of_ble_eq_true rfl) rfl dX2_waterIn_2 (fun H locs hP hD hS => ?_)
  refine lv_aload_n hx hb dX2_waterIn_5 rfl (lv_at hl 0 rfl) ?_
  refine lv_iload_n hx hb dX2_waterIn_6 rfl (lv_at hl 1 rfl) ?_
  refine MC.callV (C := RX2) (T := TX2) (N := 14) (As := [.int x]) (rest := []) (wB := rC cI cZ o b σ κ ζ 0) (c_X2_isField l D cI cZ cL o b σ κ ζ 0 hst x _ rfl) ⟨hx, hb, hml, hown, hts⟩ q654 b_X2_isField (n := 1) (by decide +kernel) ⟨Nat.le_of_ble_eq_true rfl, Nat.le_of_ble_eq_true rfl⟩ hK hP hD hS hA (sp0 _) (sp0 _) (ci := 2) rfl (q0 := 0) rfl rfl hl.1 rfl (Nat.le_of_ble_eq_true rfl) dX2_waterIn_7 ⟨Nat.le_of_ble_eq_true rfl, Nat.le_of_ble_eq_true rfl⟩ (fun H locs hP hD hS => ?_)
  refine lv_if_ne (tgt := 19) hx hb dX2_waterIn_10 (by decide) (fun c_10 => ?_) (fun c_10 => ?_)
  · obtain ⟨j, hj, ej⟩ : ∃ j, j < n ∧ x = nI j := by
      rcases hasF_iff hst.f0 (by omega) x with q | q
      · exact absurd q.1 c_10
      · exact q.2
    subst ej
    refine lv_iload_n hx hb dX2_waterIn_19 rfl (lv_at hl 2 rfl) ?_
    refine lv_iconst (v := 1) hx hb dX2_waterIn_20 (by decide) ?_
    refine lv_bipush (v := 48) hx hb dX2_waterIn_21 (by decide) ?_
    refine MC.callS (As := [.int y, .int 1, .int 48]) (rest := []) (wB := rC cI cZ o b σ κ ζ 0) (c_X2_isIn l D cI cZ cL y 1 48) ⟨hx, hb, hml, hown, hts⟩ q643 b_X2_isIn (n := 3) (by decide +kernel) ⟨Nat.le_of_ble_eq_true rfl, Nat.le_of_ble_eq_true rfl⟩ hK hP hD hS hA (spE _) (spE _) rfl hl.1 rfl (Nat.le_of_ble_eq_true rfl) dX2_waterIn_23 ⟨Nat.le_of_ble_eq_true rfl, Nat.le_of_ble_eq_true rfl⟩ (fun H locs hP hD hS => ?_)
    refine lv_if_ne (tgt := 35) hx hb dX2_waterIn_26 (by decide) (fun c_26 => ?_) (fun c_26 => ?_)
    · obtain ⟨t, hta, htb, et⟩ := inR_n 1 48 (by decide) y c_26
      subst et
      refine lv_aload_n hx hb dX2_waterIn_35 rfl (lv_at hl 0 rfl) ?_
      refine MC.callV (C := RX2) (T := TX2) (N := 14) (As := []) (rest := []) (wB := rC cI cZ o b σ (nowF σ) ζ 0) (c_X2_keep l D cI cZ cL o b σ κ ζ 0) ⟨hx, hb, hml, hown, hts⟩ q852 b_X2_keep (n := 0) (by decide +kernel) ⟨Nat.le_of_ble_eq_true rfl, Nat.le_of_ble_eq_true rfl⟩ hK hP hD hS hA (sp0 _) (sp0 _) (ci := 2) rfl (q0 := 0) rfl rfl hl.1 rfl (Nat.le_of_ble_eq_true rfl) dX2_waterIn_36 ⟨Nat.le_of_ble_eq_true rfl, Nat.le_of_ble_eq_true rfl⟩ (fun H locs hP hD hS => ?_)
      refine lv_aload_n hx hb dX2_waterIn_39 rfl (lv_at hl 0 rfl) ?_
      refine lv_iload_n hx hb dX2_waterIn_40 rfl (lv_at hl 2 rfl) ?_
      refine MC.callV (C := RX2) (T := TX2) (N := 14) (As := [.int (nI t)]) (rest := []) (wB := rC cI cZ o b (hours t σ) (nowF σ) ζ 0) (c_X2_hoursOn l D cI cZ cL o b σ (nowF σ) ζ 0 hst hB t (by omega)) ⟨hx, hb, hml, hown, hts⟩ q698 b_X2_hoursOn (n := 1) (by decide +kernel) ⟨Nat.le_of_ble_eq_true rfl, Nat.le_of_ble_eq_true rfl⟩ hK hP hD hS hA (sp0 _) (sp0 _) (ci := 2) rfl (q0 := 0) rfl rfl hl.1 rfl (Nat.le_of_ble_eq_true rfl) dX2_waterIn_41 ⟨Nat.le_of_ble_eq_true rfl, Nat.le_of_ble_eq_true rfl⟩ (fun H locs hP hD hS => ?_)
      refine lv_aload_n hx hb dX2_waterIn_44 rfl (lv_at hl 0 rfl) ?_
      refine lv_iload_n hx hb dX2_waterIn_45 rfl (lv_at hl 1 rfl) ?_
      refine MC.callV (C := RX2) (T := TX2) (N := 14) (As := [.int (nI j)]) (rest := []) (wB := rC cI cZ o b (hours t σ) (nowF σ) ζ 0) (c_X2_water l D cI cZ cL o b (hours t σ) (nowF σ) ζ 0 j (by omega)) ⟨hx, hb, hml, hown, hts⟩ q686 b_X2_water (n := 1) (by decide +kernel) ⟨Nat.le_of_ble_eq_true rfl, Nat.le_of_ble_eq_true rfl⟩ hK hP hD hS hA (sp0 _) (sp0 _) (ci := 2) rfl (q0 := 0) rfl rfl hl.1 rfl (Nat.le_of_ble_eq_true rfl) dX2_waterIn_46 ⟨Nat.le_of_ble_eq_true rfl, Nat.le_of_ble_eq_true rfl⟩ (fun H locs hP hD hS => ?_)
      refine lv_istore_n (lv' := [(3, .int (hours t σ 2 j)), (0, .ref o), (1, .int (nI j)), (2, .int (nI t))]) hx hb dX2_waterIn_49 rfl hl (by decide) rfl (fun ls hl => ?_)
      refine lv_aload_n hx hb dX2_waterIn_50 rfl (lv_at hl 1 rfl) ?_
      refine MC.callV (C := RX2) (T := TX2) (N := 14) (As := []) (rest := []) (wB := rC cI cZ o b σ (nowF σ) ζ 0) (c_X2_bringBack l D cI cZ cL o b (hours t σ) κ ζ 0 σ (Agr.hrs t σ).sy) ⟨hx, hb, hml, hown, hts⟩ q859 b_X2_bringBack (n := 0) (by decide +kernel) ⟨Nat.le_of_ble_eq_true rfl, Nat.le_of_ble_eq_true rfl⟩ hK hP hD hS hA (sp0 _) (sp0 _) (ci := 2) rfl (q0 := 0) rfl rfl hl.1 rfl (Nat.le_of_ble_eq_true rfl) dX2_waterIn_51 ⟨Nat.le_of_ble_eq_true rfl, Nat.le_of_ble_eq_true rfl⟩ (fun H locs hP hD hS => ?_)
      refine lv_iload_n hx hb dX2_waterIn_54 rfl (lv_at hl 0 rfl) ?_
      subst hQ
      exact ri hx hb hr hlocks hK hP hD hS dX2_waterIn_55 (by rw [if_neg c_10, if_neg c_26, if_neg c_10, if_neg c_26]) (by rw [if_neg c_10, if_neg c_26, nI_clamp (by omega), nI_clamp (by omega)])
    · refine lv_aload_n hx hb dX2_waterIn_29 rfl (lv_at hl 0 rfl) ?_
      refine lv_iconst (v := 2) hx hb dX2_waterIn_30 (by decide) ?_
      refine MC.callV (C := RX2) (T := TX2) (N := 14) (As := [.int 2]) (rest := []) (wB := rC cI cZ o b σ κ ζ 2) (c_X2_no l D cI cZ cL o b σ κ ζ 0 2) ⟨hx, hb, hml, hown, hts⟩ q646 b_X2_no (n := 1) (by decide +kernel) ⟨Nat.le_of_ble_eq_true rfl, Nat.le_of_ble_eq_true rfl⟩ hK hP hD hS hA (sp0 _) (sp0 _) (ci := 2) rfl (q0 := 0) rfl rfl hl.1 rfl (Nat.le_of_ble_eq_true rfl) dX2_waterIn_31 ⟨Nat.le_of_ble_eq_true rfl, Nat.le_of_ble_eq_true rfl⟩ (fun H locs hP hD hS => ?_)
      subst hQ
      exact ri hx hb hr hlocks hK hP hD hS dX2_waterIn_34 (by rw [if_neg c_10, if_pos c_26, if_neg c_10, if_pos c_26]) (by rw [if_neg c_10, if_pos c_26])
  · refine lv_aload_n hx hb dX2_waterIn_13 rfl (lv_at hl 0 rfl) ?_
    refine lv_iconst (v := 1) hx hb dX2_waterIn_14 (by decide) ?_
    refine MC.callV (C := RX2) (T := TX2) (N := 14) (As := [.int 1]) (rest := []) (wB := rC cI cZ o b σ κ ζ 1) (c_X2_no l D cI cZ cL o b σ κ ζ 0 1) ⟨hx, hb, hml, hown, hts⟩ q646 b_X2_no (n := 1) (by decide +kernel) ⟨Nat.le_of_ble_eq_true rfl, Nat.le_of_ble_eq_true rfl⟩ hK hP hD hS hA (sp0 _) (sp0 _) (ci := 2) rfl (q0 := 0) rfl rfl hl.1 rfl (Nat.le_of_ble_eq_true rfl) dX2_waterIn_15 ⟨Nat.le_of_ble_eq_true rfl, Nat.le_of_ble_eq_true rfl⟩ (fun H locs hP hD hS => ?_)
    subst hQ
    exact ri hx hb hr hlocks hK hP hD hS dX2_waterIn_18 (by rw [if_pos c_10, if_pos c_10]) (by rw [if_pos c_10])

abbrev rmX2_addField : Room := { frames := 1, cells := 0, slots := 0, locals := 22 }
theorem b_X2_addField : Cond.instanceMethod yX2_addField ∈ LW ∧ Cond.selects RX2 yX2_addField yX2_addField ∈ LW ∧ Cond.initialized RX2 ∈ LW ∧ Cond.code yX2_addField cX2_addField 3 (some .int) ∈ LW := ⟨q640, q641, q40, q642⟩
set_option maxHeartbeats 4000000 in
set_option maxRecDepth 100000 in
theorem c_X2_addField (l : Launch) (D : va_G) (cI cZ cL : ClassId) {n k : Nat} (o : Nat) (b : Nat → Nat) (σ : Sg) (κ ζ : Nat → Int32) (th : Int32) (hst : Shp n k σ) (p0 p1 : Int32) : MC l yX2_addField cX2_addField 3 (some .int) rmX2_addField D (tZ cI cZ cL) [.ref o, .int p0, .int p1] (rC cI cZ o b σ κ ζ th) (rC cI cZ o b (if inR p0 0 20 = 0 then σ else if inR p1 0 99 = 0 then σ else if n = 10 then σ else putF n p0 p1 σ) κ ζ (if inR p0 0 20 = 0 then 1 else if inR p1 0 99 = 0 then 1 else if n = 10 then 2 else 0)) (some (.int (if inR p0 0 20 = 0 then 0 else if inR p1 0 99 = 0 then 0 else if n = 10 then 0 else nI n))) := by
  refine MC.of (by decide) (Nat.le_of_ble_eq_true rfl) ?_
  intro p e s m args below meth c A ls Q hx hb hml hr hts hown hlocks hA hP hD hK hS hl hQ
  have hown : s.vm.findClass RX2 = some m.cls := hown
  have hn10 := hst.1
  have hk16 := hst.2.1
  have hl : lv_has ls 3 [(0, .ref o), (1, .int p0), (2, .int p1)] := hl
  refine lv_aload_n hx hb dX2_addField_0 rfl (lv_at hl 0 rfl) ?_
  refine lv_iconst (v := 0) hx hb dX2_addField_1 (by decide) ?_
  refine x_put (C := RX2) (T := TX2) (N := 14) (ws2 := rC cI cZ o b σ κ ζ 0) hx hb hts in_wsX20 tyX2_ok nmX2 hown hK hP hD hS 0 rfl rfl 0 (by decide) q592 rfl (by decide +kernel) (Nat.le_of_ble_eq_true rfl) rfl dX2_addField_2 (fun H locs hP hD hS => ?_)
  refine lv_iload_n hx hb dX2_addField_5 rfl (lv_at hl 1 rfl) ?_
  refine lv_iconst (v := 0) hx hb dX2_addField_6 (by decide) ?_
  refine lv_bipush (v := 20) hx hb dX2_addField_7 (by decide) ?_
  refine MC.callS (As := [.int p0, .int 0, .int 20]) (rest := []) (wB := rC cI cZ o b σ κ ζ 0) (c_X2_isIn l D cI cZ cL p0 0 20) ⟨hx, hb, hml, hown, hts⟩ q643 b_X2_isIn (n := 3) (by decide +kernel) ⟨Nat.le_of_ble_eq_true rfl, Nat.le_of_ble_eq_true rfl⟩ hK hP hD hS hA (spE _) (spE _) rfl hl.1 rfl (Nat.le_of_ble_eq_true rfl) dX2_addField_9 ⟨Nat.le_of_ble_eq_true rfl, Nat.le_of_ble_eq_true rfl⟩ (fun H locs hP hD hS => ?_)
  refine lv_if_eq (tgt := 25) hx hb dX2_addField_12 (by decide) (fun c_12 => ?_) (fun c_12 => ?_)
  · refine lv_aload_n hx hb dX2_addField_25 rfl (lv_at hl 0 rfl) ?_
    refine lv_iconst (v := 1) hx hb dX2_addField_26 (by decide) ?_
    refine MC.callV (C := RX2) (T := TX2) (N := 14) (As := [.int 1]) (rest := []) (wB := rC cI cZ o b σ κ ζ 1) (c_X2_no l D cI cZ cL o b σ κ ζ 0 1) ⟨hx, hb, hml, hown, hts⟩ q646 b_X2_no (n := 1) (by decide +kernel) ⟨Nat.le_of_ble_eq_true rfl, Nat.le_of_ble_eq_true rfl⟩ hK hP hD hS hA (sp0 _) (sp0 _) (ci := 2) rfl (q0 := 0) rfl rfl hl.1 rfl (Nat.le_of_ble_eq_true rfl) dX2_addField_27 ⟨Nat.le_of_ble_eq_true rfl, Nat.le_of_ble_eq_true rfl⟩ (fun H locs hP hD hS => ?_)
    subst hQ
    exact ri hx hb hr hlocks hK hP hD hS dX2_addField_30 (by rw [if_pos c_12, if_pos c_12]) (by rw [if_pos c_12])
  · refine lv_iload_n hx hb dX2_addField_15 rfl (lv_at hl 2 rfl) ?_
    refine lv_iconst (v := 0) hx hb dX2_addField_16 (by decide) ?_
    refine lv_bipush (v := 99) hx hb dX2_addField_17 (by decide) ?_
    refine MC.callS (As := [.int p1, .int 0, .int 99]) (rest := []) (wB := rC cI cZ o b σ κ ζ 0) (c_X2_isIn l D cI cZ cL p1 0 99) ⟨hx, hb, hml, hown, hts⟩ q643 b_X2_isIn (n := 3) (by decide +kernel) ⟨Nat.le_of_ble_eq_true rfl, Nat.le_of_ble_eq_true rfl⟩ hK hP hD hS hA (spE _) (spE _) rfl hl.1 rfl (Nat.le_of_ble_eq_true rfl) dX2_addField_19 ⟨Nat.le_of_ble_eq_true rfl, Nat.le_of_ble_eq_true rfl⟩ (fun H locs hP hD hS => ?_)
    refine lv_if_ne (tgt := 31) hx hb dX2_addField_22 (by decide) (fun c_22 => ?_) (fun c_22 => ?_)
    · refine lv_aload_n hx hb dX2_addField_31 rfl (lv_at hl 0 rfl) ?_
      refine x_get (C := RX2) (T := TX2) (N := 14) hx hb hts in_wsX20 hown hK hP 0 rfl rfl 1 (by decide) q593 (v := .int (nI n)) (congrArg (fun z => some (Value.int z)) (hst.f0)) dX2_addField_32 ?_
      refine lv_bipush (v := 10) hx hb dX2_addField_35 (by decide) ?_
      refine lv_icmp_ne (tgt := 46) hx hb dX2_addField_37 (by decide) (fun c_37 => ?_) (fun c_37 => ?_)
      · have hc_37 : ¬ n = 10 := fun z => c_37 ((nI_eq (a := n) (b := 10) (by omega) (by omega)).mpr z)
        refine lv_aload_n hx hb dX2_addField_46 rfl (lv_at hl 0 rfl) ?_
        refine x_get (C := RX2) (T := TX2) (N := 14) hx hb hts in_wsX20 hown hK hP 0 rfl rfl 4 (by decide) q596 (v := .ref (b 0)) rfl dX2_addField_47 ?_
        refine lv_aload_n hx hb dX2_addField_50 rfl (lv_at hl 0 rfl) ?_
        refine x_get (C := RX2) (T := TX2) (N := 14) hx hb hts in_wsX20 hown hK hP 0 rfl rfl 1 (by decide) q593 (v := .int (nI n)) (congrArg (fun z => some (Value.int z)) (hst.f0)) dX2_addField_51 ?_
        refine lv_iload_n hx hb dX2_addField_54 rfl (lv_at hl 1 rfl) ?_
        refine x_ist (ws2 := rC cI cZ o b (su σ 0 n p0) κ ζ 0) hx hb hK hP hD hS 1 0 rfl rfl n (rfl) (by omega) (by decide) rfl dX2_addField_55 (fun H locs hP hD hS => ?_)
        refine lv_aload_n hx hb dX2_addField_56 rfl (lv_at hl 0 rfl) ?_
        refine x_get (C := RX2) (T := TX2) (N := 14) hx hb hts in_wsX20 hown hK hP 0 rfl rfl 5 (by decide) q597 (v := .ref (b 1)) rfl dX2_addField_57 ?_
        refine lv_aload_n hx hb dX2_addField_60 rfl (lv_at hl 0 rfl) ?_
        refine x_get (C := RX2) (T := TX2) (N := 14) hx hb hts in_wsX20 hown hK hP 0 rfl rfl 1 (by decide) q593 (v := .int (nI n)) (congrArg (fun z => some (Value.int z)) (hst.f0)) dX2_addField_61 ?_
        refine lv_iload_n hx hb dX2_addField_64 rfl (lv_at hl 2 rfl) ?_
        refine x_ist (ws2 := rC cI cZ o b (su (su σ 0 n p0) 1 n p1) κ ζ 0) hx hb hK hP hD hS 2 0 rfl rfl n (rfl) (by omega) (by decide) rfl dX2_addField_65 (fun H locs hP hD hS => ?_)
        refine lv_aload_n hx hb dX2_addField_66 rfl (lv_at hl 0 rfl) ?_
        refine lv_dup hx hb dX2_addField_67 rfl ?_
        refine x_get (C := RX2) (T := TX2) (N := 14) hx hb hts in_wsX20 hown hK hP 0 rfl rfl 1 (by decide) q593 (v := .int (nI n)) (congrArg (fun z => some (Value.int z)) (hst.f0)) dX2_addField_68 ?_
        refine lv_iconst (v := 1) hx hb dX2_addField_71 (by decide) ?_
        refine lv_iadd hx hb dX2_addField_72 ?_
        refine x_top (nI_add n 1) ?_
        refine x_put (C := RX2) (T := TX2) (N := 14) (ws2 := rC cI cZ o b (sc (su (su σ 0 n p0) 1 n p1) 0 (nI (n + 1))) κ ζ 0) hx hb hts in_wsX20 tyX2_ok nmX2 hown hK hP hD hS 0 rfl rfl 1 (by decide) q593 rfl (by decide +kernel) (Nat.le_of_ble_eq_true rfl) rfl dX2_addField_73 (fun H locs hP hD hS => ?_)
        refine lv_aload_n hx hb dX2_addField_76 rfl (lv_at hl 0 rfl) ?_
        refine x_get (C := RX2) (T := TX2) (N := 14) hx hb hts in_wsX20 hown hK hP 0 rfl rfl 1 (by decide) q593 (v := .int (nI (n + 1))) (congrArg (fun z => some (Value.int z)) (rfl)) dX2_addField_77 ?_
        refine lv_iconst (v := 1) hx hb dX2_addField_80 (by decide) ?_
        refine lv_isub hx hb dX2_addField_81 ?_
        subst hQ
        exact ri hx hb hr hlocks hK hP hD hS dX2_addField_82 (by rw [if_neg c_12, if_neg c_22, if_neg hc_37, if_neg c_12, if_neg c_22, if_neg hc_37]; unfold putF; rw [if_neg (by omega)]) (by rw [if_neg c_12, if_neg c_22, if_neg hc_37]; exact (nI_pred n))
      · have hc_37 : n = 10 := (nI_eq (a := n) (b := 10) (by omega) (by omega)).mp c_37
        refine lv_aload_n hx hb dX2_addField_40 rfl (lv_at hl 0 rfl) ?_
        refine lv_iconst (v := 2) hx hb dX2_addField_41 (by decide) ?_
        refine MC.callV (C := RX2) (T := TX2) (N := 14) (As := [.int 2]) (rest := []) (wB := rC cI cZ o b σ κ ζ 2) (c_X2_no l D cI cZ cL o b σ κ ζ 0 2) ⟨hx, hb, hml, hown, hts⟩ q646 b_X2_no (n := 1) (by decide +kernel) ⟨Nat.le_of_ble_eq_true rfl, Nat.le_of_ble_eq_true rfl⟩ hK hP hD hS hA (sp0 _) (sp0 _) (ci := 2) rfl (q0 := 0) rfl rfl hl.1 rfl (Nat.le_of_ble_eq_true rfl) dX2_addField_42 ⟨Nat.le_of_ble_eq_true rfl, Nat.le_of_ble_eq_true rfl⟩ (fun H locs hP hD hS => ?_)
        subst hQ
        exact ri hx hb hr hlocks hK hP hD hS dX2_addField_45 (by rw [if_neg c_12, if_neg c_22, if_pos hc_37, if_neg c_12, if_neg c_22, if_pos hc_37]) (by rw [if_neg c_12, if_neg c_22, if_pos hc_37])
    · refine lv_aload_n hx hb dX2_addField_25 rfl (lv_at hl 0 rfl) ?_
      refine lv_iconst (v := 1) hx hb dX2_addField_26 (by decide) ?_
      refine MC.callV (C := RX2) (T := TX2) (N := 14) (As := [.int 1]) (rest := []) (wB := rC cI cZ o b σ κ ζ 1) (c_X2_no l D cI cZ cL o b σ κ ζ 0 1) ⟨hx, hb, hml, hown, hts⟩ q646 b_X2_no (n := 1) (by decide +kernel) ⟨Nat.le_of_ble_eq_true rfl, Nat.le_of_ble_eq_true rfl⟩ hK hP hD hS hA (sp0 _) (sp0 _) (ci := 2) rfl (q0 := 0) rfl rfl hl.1 rfl (Nat.le_of_ble_eq_true rfl) dX2_addField_27 ⟨Nat.le_of_ble_eq_true rfl, Nat.le_of_ble_eq_true rfl⟩ (fun H locs hP hD hS => ?_)
      subst hQ
      exact ri hx hb hr hlocks hK hP hD hS dX2_addField_30 (by rw [if_neg c_12, if_pos c_22, if_neg c_12, if_pos c_22]) (by rw [if_neg c_12, if_pos c_22])

abbrev rmX2_add : Room := { frames := 1, cells := 0, slots := 0, locals := 22 }
theorem b_X2_add : Cond.instanceMethod yX2_add ∈ LW ∧ Cond.selects RX2 yX2_add yX2_add ∈ LW ∧ Cond.initialized RX2 ∈ LW ∧ Cond.code yX2_add cX2_add 5 (some .int) ∈ LW := ⟨q660, q10, q40, q661⟩
set_option maxHeartbeats 4000000 in
set_option maxRecDepth 100000 in
theorem c_X2_add (l : Launch) (D : va_G) (cI cZ cL : ClassId) {n k : Nat} (o : Nat) (b : Nat → Nat) (σ : Sg) (κ ζ : Nat → Int32) (th : Int32) (hst : Shp n k σ) (p0 p1 p2 y : Int32) (hy : y = 0 ∨ y = 1) : MC l yX2_add cX2_add 5 (some .int) rmX2_add D (tZ cI cZ cL) [.ref o, .int p0, .int p1, .int p2, .int y] (rC cI cZ o b σ κ ζ th) (rC cI cZ o b (if p0 = p1 then σ else if inR p2 1 9 = 0 then σ else if k = 16 then σ else putD k p0 p1 p2 y σ) κ ζ (if p0 = p1 then 2 else if inR p2 1 9 = 0 then 2 else if k = 16 then 3 else th)) (some (.int (if p0 = p1 then 0 else if inR p2 1 9 = 0 then 0 else if k = 16 then 0 else nI k))) := by
  refine MC.of (by decide) (Nat.le_of_ble_eq_true rfl) ?_
  intro p e s m args below meth c A ls Q hx hb hml hr hts hown hlocks hA hP hD hK hS hl hQ
  have hown : s.vm.findClass RX2 = some m.cls := hown
  have hn10 := hst.1
  have hk16 := hst.2.1
  have hl : lv_has ls 5 [(0, .ref o), (1, .int p0), (2, .int p1), (3, .int p2), (4, .int y)] := hl
  refine lv_iload_n hx hb dX2_add_0 rfl (lv_at hl 1 rfl) ?_
  refine lv_iload_n hx hb dX2_add_1 rfl (lv_at hl 2 rfl) ?_
  refine lv_icmp_eq (tgt := 15) hx hb dX2_add_2 (by decide) (fun c_2 => ?_) (fun c_2 => ?_)
  · refine lv_aload_n hx hb dX2_add_15 rfl (lv_at hl 0 rfl) ?_
    refine lv_iconst (v := 2) hx hb dX2_add_16 (by decide) ?_
    refine MC.callV (C := RX2) (T := TX2) (N := 14) (As := [.int 2]) (rest := []) (wB := rC cI cZ o b σ κ ζ 2) (c_X2_no l D cI cZ cL o b σ κ ζ th 2) ⟨hx, hb, hml, hown, hts⟩ q646 b_X2_no (n := 1) (by decide +kernel) ⟨Nat.le_of_ble_eq_true rfl, Nat.le_of_ble_eq_true rfl⟩ hK hP hD hS hA (sp0 _) (sp0 _) (ci := 2) rfl (q0 := 0) rfl rfl hl.1 rfl (Nat.le_of_ble_eq_true rfl) dX2_add_17 ⟨Nat.le_of_ble_eq_true rfl, Nat.le_of_ble_eq_true rfl⟩ (fun H locs hP hD hS => ?_)
    subst hQ
    exact ri hx hb hr hlocks hK hP hD hS dX2_add_20 (by rw [if_pos c_2, if_pos c_2]) (by rw [if_pos c_2])
  · refine lv_iload_n hx hb dX2_add_5 rfl (lv_at hl 3 rfl) ?_
    refine lv_iconst (v := 1) hx hb dX2_add_6 (by decide) ?_
    refine lv_bipush (v := 9) hx hb dX2_add_7 (by decide) ?_
    refine MC.callS (As := [.int p2, .int 1, .int 9]) (rest := []) (wB := rC cI cZ o b σ κ ζ th) (c_X2_isIn l D cI cZ cL p2 1 9) ⟨hx, hb, hml, hown, hts⟩ q643 b_X2_isIn (n := 3) (by decide +kernel) ⟨Nat.le_of_ble_eq_true rfl, Nat.le_of_ble_eq_true rfl⟩ hK hP hD hS hA (spE _) (spE _) rfl hl.1 rfl (Nat.le_of_ble_eq_true rfl) dX2_add_9 ⟨Nat.le_of_ble_eq_true rfl, Nat.le_of_ble_eq_true rfl⟩ (fun H locs hP hD hS => ?_)
    refine lv_if_ne (tgt := 21) hx hb dX2_add_12 (by decide) (fun c_12 => ?_) (fun c_12 => ?_)
    · refine lv_aload_n hx hb dX2_add_21 rfl (lv_at hl 0 rfl) ?_
      refine x_get (C := RX2) (T := TX2) (N := 14) hx hb hts in_wsX20 hown hK hP 0 rfl rfl 2 (by decide) q594 (v := .int (nI k)) (congrArg (fun z => some (Value.int z)) (hst.f1)) dX2_add_22 ?_
      refine lv_bipush (v := 16) hx hb dX2_add_25 (by decide) ?_
      refine lv_icmp_ne (tgt := 36) hx hb dX2_add_27 (by decide) (fun c_27 => ?_) (fun c_27 => ?_)
      · have hc_27 : ¬ k = 16 := fun z => c_27 ((nI_eq (a := k) (b := 16) (by omega) (by omega)).mpr z)
        refine lv_aload_n hx hb dX2_add_36 rfl (lv_at hl 0 rfl) ?_
        refine x_get (C := RX2) (T := TX2) (N := 14) hx hb hts in_wsX20 hown hK hP 0 rfl rfl 6 (by decide) q598 (v := .ref (b 2)) rfl dX2_add_37 ?_
        refine lv_aload_n hx hb dX2_add_40 rfl (lv_at hl 0 rfl) ?_
        refine x_get (C := RX2) (T := TX2) (N := 14) hx hb hts in_wsX20 hown hK hP 0 rfl rfl 2 (by decide) q594 (v := .int (nI k)) (congrArg (fun z => some (Value.int z)) (hst.f1)) dX2_add_41 ?_
        refine lv_iload_n hx hb dX2_add_44 rfl (lv_at hl 1 rfl) ?_
        refine x_ist (ws2 := rC cI cZ o b (su σ 5 k p0) κ ζ th) hx hb hK hP hD hS 3 0 rfl rfl k (rfl) (by omega) (by decide) rfl dX2_add_45 (fun H locs hP hD hS => ?_)
        refine lv_aload_n hx hb dX2_add_46 rfl (lv_at hl 0 rfl) ?_
        refine x_get (C := RX2) (T := TX2) (N := 14) hx hb hts in_wsX20 hown hK hP 0 rfl rfl 7 (by decide) q599 (v := .ref (b 3)) rfl dX2_add_47 ?_
        refine lv_aload_n hx hb dX2_add_50 rfl (lv_at hl 0 rfl) ?_
        refine x_get (C := RX2) (T := TX2) (N := 14) hx hb hts in_wsX20 hown hK hP 0 rfl rfl 2 (by decide) q594 (v := .int (nI k)) (congrArg (fun z => some (Value.int z)) (hst.f1)) dX2_add_51 ?_
        refine lv_iload_n hx hb dX2_add_54 rfl (lv_at hl 2 rfl) ?_
        refine x_ist (ws2 := rC cI cZ o b (su (su σ 5 k p0) 6 k p1) κ ζ th) hx hb hK hP hD hS 4 0 rfl rfl k (rfl) (by omega) (by decide) rfl dX2_add_55 (fun H locs hP hD hS => ?_)
        refine lv_aload_n hx hb dX2_add_56 rfl (lv_at hl 0 rfl) ?_
        refine x_get (C := RX2) (T := TX2) (N := 14) hx hb hts in_wsX20 hown hK hP 0 rfl rfl 8 (by decide) q600 (v := .ref (b 4)) rfl dX2_add_57 ?_
        refine lv_aload_n hx hb dX2_add_60 rfl (lv_at hl 0 rfl) ?_
        refine x_get (C := RX2) (T := TX2) (N := 14) hx hb hts in_wsX20 hown hK hP 0 rfl rfl 2 (by decide) q594 (v := .int (nI k)) (congrArg (fun z => some (Value.int z)) (hst.f1)) dX2_add_61 ?_
        refine lv_iload_n hx hb dX2_add_64 rfl (lv_at hl 3 rfl) ?_
        refine x_ist (ws2 := rC cI cZ o b (su (su (su σ 5 k p0) 6 k p1) 7 k p2) κ ζ th) hx hb hK hP hD hS 5 0 rfl rfl k (rfl) (by omega) (by decide) rfl dX2_add_65 (fun H locs hP hD hS => ?_)
        refine lv_aload_n hx hb dX2_add_66 rfl (lv_at hl 0 rfl) ?_
        refine x_get (C := RX2) (T := TX2) (N := 14) hx hb hts in_wsX20 hown hK hP 0 rfl rfl 9 (by decide) q601 (v := .ref (b 5)) rfl dX2_add_67 ?_
        refine lv_aload_n hx hb dX2_add_70 rfl (lv_at hl 0 rfl) ?_
        refine x_get (C := RX2) (T := TX2) (N := 14) hx hb hts in_wsX20 hown hK hP 0 rfl rfl 2 (by decide) q594 (v := .int (nI k)) (congrArg (fun z => some (Value.int z)) (hst.f1)) dX2_add_71 ?_
        refine lv_iload hx hb dX2_add_74 (lv_at hl 4 rfl) ?_
        refine x_zst (ws2 := rC cI cZ o b (su (su (su (su σ 5 k p0) 6 k p1) 7 k p2) 9 k y) κ ζ th) hx hb hK hP hD hS 6 1 rfl rfl k (rfl) (by omega) (by decide) hy rfl dX2_add_76 (fun H locs hP hD hS => ?_)
        refine lv_aload_n hx hb dX2_add_77 rfl (lv_at hl 0 rfl) ?_
        refine x_get (C := RX2) (T := TX2) (N := 14) hx hb hts in_wsX20 hown hK hP 0 rfl rfl 10 (by decide) q602 (v := .ref (b 6)) rfl dX2_add_78 ?_
        refine lv_aload_n hx hb dX2_add_81 rfl (lv_at hl 0 rfl) ?_
        refine x_get (C := RX2) (T := TX2) (N := 14) hx hb hts in_wsX20 hown hK hP 0 rfl rfl 2 (by decide) q594 (v := .int (nI k)) (congrArg (fun z => some (Value.int z)) (hst.f1)) dX2_add_82 ?_
        refine lv_iconst (v := 1) hx hb dX2_add_85 (by decide) ?_
        refine x_zst (ws2 := rC cI cZ o b (su (su (su (su (su σ 5 k p0) 6 k p1) 7 k p2) 9 k y) 10 k 1) κ ζ th) hx hb hK hP hD hS 7 1 rfl rfl k (rfl) (by omega) (by decide) (Or.inr rfl) rfl dX2_add_86 (fun H locs hP hD hS => ?_)
        refine lv_aload_n hx hb dX2_add_87 rfl (lv_at hl 0 rfl) ?_
        refine lv_dup hx hb dX2_add_88 rfl ?_
        refine x_get (C := RX2) (T := TX2) (N := 14) hx hb hts in_wsX20 hown hK hP 0 rfl rfl 2 (by decide) q594 (v := .int (nI k)) (congrArg (fun z => some (Value.int z)) (hst.f1)) dX2_add_89 ?_
        refine lv_iconst (v := 1) hx hb dX2_add_92 (by decide) ?_
        refine lv_iadd hx hb dX2_add_93 ?_
        refine x_top (nI_add k 1) ?_
        refine x_put (C := RX2) (T := TX2) (N := 14) (ws2 := rC cI cZ o b (sc (su (su (su (su (su σ 5 k p0) 6 k p1) 7 k p2) 9 k y) 10 k 1) 1 (nI (k + 1))) κ ζ th) hx hb hts in_wsX20 tyX2_ok nmX2 hown hK hP hD hS 0 rfl rfl 2 (by decide) q594 rfl (by decide +kernel) (Nat.le_of_ble_eq_true rfl) rfl dX2_add_94 (fun H locs hP hD hS => ?_)
        refine lv_aload_n hx hb dX2_add_97 rfl (lv_at hl 0 rfl) ?_
        refine x_get (C := RX2) (T := TX2) (N := 14) hx hb hts in_wsX20 hown hK hP 0 rfl rfl 2 (by decide) q594 (v := .int (nI (k + 1))) (congrArg (fun z => some (Value.int z)) (rfl)) dX2_add_98 ?_
        refine lv_iconst (v := 1) hx hb dX2_add_101 (by decide) ?_
        refine lv_isub hx hb dX2_add_102 ?_
        subst hQ
        exact ri hx hb hr hlocks hK hP hD hS dX2_add_103 (by rw [if_neg c_2, if_neg c_12, if_neg hc_27, if_neg c_2, if_neg c_12, if_neg hc_27]; unfold putD; rw [if_neg (by omega)]) (by rw [if_neg c_2, if_neg c_12, if_neg hc_27]; exact (nI_pred k))
      · have hc_27 : k = 16 := (nI_eq (a := k) (b := 16) (by omega) (by omega)).mp c_27
        refine lv_aload_n hx hb dX2_add_30 rfl (lv_at hl 0 rfl) ?_
        refine lv_iconst (v := 3) hx hb dX2_add_31 (by decide) ?_
        refine MC.callV (C := RX2) (T := TX2) (N := 14) (As := [.int 3]) (rest := []) (wB := rC cI cZ o b σ κ ζ 3) (c_X2_no l D cI cZ cL o b σ κ ζ th 3) ⟨hx, hb, hml, hown, hts⟩ q646 b_X2_no (n := 1) (by decide +kernel) ⟨Nat.le_of_ble_eq_true rfl, Nat.le_of_ble_eq_true rfl⟩ hK hP hD hS hA (sp0 _) (sp0 _) (ci := 2) rfl (q0 := 0) rfl rfl hl.1 rfl (Nat.le_of_ble_eq_true rfl) dX2_add_32 ⟨Nat.le_of_ble_eq_true rfl, Nat.le_of_ble_eq_true rfl⟩ (fun H locs hP hD hS => ?_)
        subst hQ
        exact ri hx hb hr hlocks hK hP hD hS dX2_add_35 (by rw [if_neg c_2, if_neg c_12, if_pos hc_27, if_neg c_2, if_neg c_12, if_pos hc_27]) (by rw [if_neg c_2, if_neg c_12, if_pos hc_27])
    · refine lv_aload_n hx hb dX2_add_15 rfl (lv_at hl 0 rfl) ?_
      refine lv_iconst (v := 2) hx hb dX2_add_16 (by decide) ?_
      refine MC.callV (C := RX2) (T := TX2) (N := 14) (As := [.int 2]) (rest := []) (wB := rC cI cZ o b σ κ ζ 2) (c_X2_no l D cI cZ cL o b σ κ ζ th 2) ⟨hx, hb, hml, hown, hts⟩ q646 b_X2_no (n := 1) (by decide +kernel) ⟨Nat.le_of_ble_eq_true rfl, Nat.le_of_ble_eq_true rfl⟩ hK hP hD hS hA (sp0 _) (sp0 _) (ci := 2) rfl (q0 := 0) rfl rfl hl.1 rfl (Nat.le_of_ble_eq_true rfl) dX2_add_17 ⟨Nat.le_of_ble_eq_true rfl, Nat.le_of_ble_eq_true rfl⟩ (fun H locs hP hD hS => ?_)
      subst hQ
      exact ri hx hb hr hlocks hK hP hD hS dX2_add_20 (by rw [if_neg c_2, if_pos c_12, if_neg c_2, if_pos c_12]) (by rw [if_neg c_2, if_pos c_12])

abbrev rmX2_addDitch : Room := { frames := 2, cells := 0, slots := 0, locals := 46 }
theorem b_X2_addDitch : Cond.instanceMethod yX2_addDitch ∈ LW ∧ Cond.selects RX2 yX2_addDitch yX2_addDitch ∈ LW ∧ Cond.initialized RX2 ∈ LW ∧ Cond.code yX2_addDitch cX2_addDitch 4 (some .int) ∈ LW := ⟨q651, q652, q40, q653⟩
set_option maxHeartbeats 4000000 in
set_option maxRecDepth 100000 in
theorem c_X2_addDitch (l : Launch) (D : va_G) (cI cZ cL : ClassId) {n k : Nat} (o : Nat) (b : Nat → Nat) (σ : Sg) (κ ζ : Nat → Int32) (th : Int32) (hst : Shp n k σ) (p0 p1 p2 : Int32) : MC l yX2_addDitch cX2_addDitch 4 (some .int) rmX2_addDitch D (tZ cI cZ cL) [.ref o, .int p0, .int p1, .int p2] (rC cI cZ o b σ κ ζ th) (rC cI cZ o b (if hasF 0 σ p0 = 0 then σ else if hasF 0 σ p1 = 0 then σ else (if p0 = p1 then σ else if inR p2 1 9 = 0 then σ else if k = 16 then σ else putD k p0 p1 p2 0 σ)) κ ζ (if hasF 0 σ p0 = 0 then 1 else if hasF 0 σ p1 = 0 then 1 else (if p0 = p1 then 2 else if inR p2 1 9 = 0 then 2 else if k = 16 then 3 else 0))) (some (.int (if hasF 0 σ p0 = 0 then 0 else if hasF 0 σ p1 = 0 then 0 else (if p0 = p1 then 0 else if inR p2 1 9 = 0 then 0 else if k = 16 then 0 else nI k)))) := by
  refine MC.of (by decide) (Nat.le_of_ble_eq_true rfl) ?_
  intro p e s m args below meth c A ls Q hx hb hml hr hts hown hlocks hA hP hD hK hS hl hQ
  have hown : s.vm.findClass RX2 = some m.cls := hown
  have hn10 := hst.1
  have hk16 := hst.2.1
  have hl : lv_has ls 4 [(0, .ref o), (1, .int p0), (2, .int p1), (3, .int p2)] := hl
  refine lv_aload_n hx hb dX2_addDitch_0 rfl (lv_at hl 0 rfl) ?_
  refine lv_iconst (v := 0) hx hb dX2_addDitch_1 (by decide) ?_
  refine x_put (C := RX2) (T := TX2) (N := 14) (ws2 := rC cI cZ o b σ κ ζ 0) hx hb hts in_wsX20 tyX2_ok nmX2 hown hK hP hD hS 0 rfl rfl 0 (by decide) q592 rfl (by decide +kernel) (Nat.le_of_ble_eq_true rfl) rfl dX2_addDitch_2 (fun H locs hP hD hS => ?_)
  refine lv_aload_n hx hb dX2_addDitch_5 rfl (lv_at hl 0 rfl) ?_
  refine lv_iload_n hx hb dX2_addDitch_6 rfl (lv_at hl 1 rfl) ?_
  refine MC.callV (C := RX2) (T := TX2) (N := 14) (As := [.int p0]) (rest := []) (wB := rC cI cZ o b σ κ ζ 0) (c_X2_isField l D cI cZ cL o b σ κ ζ 0 hst p0 _ rfl) ⟨hx, hb, hml, hown, hts⟩ q654 b_X2_isField (n := 1) (by decide +kernel) ⟨Nat.le_of_ble_eq_true rfl, Nat.le_of_ble_eq_true rfl⟩ hK hP hD hS hA (sp0 _) (sp0 _) (ci := 2) rfl (q0 := 0) rfl rfl hl.1 rfl (Nat.le_of_ble_eq_true rfl) dX2_addDitch_7 ⟨Nat.le_of_ble_eq_true rfl, Nat.le_of_ble_eq_true rfl⟩ (fun H locs hP hD hS => ?_)
  refine lv_if_eq (tgt := 32) hx hb dX2_addDitch_10 (by decide) (fun c_10 => ?_) (fun c_10 => ?_)
  · refine lv_aload_n hx hb dX2_addDitch_32 rfl (lv_at hl 0 rfl) ?_
    refine lv_iconst (v := 1) hx hb dX2_addDitch_33 (by decide) ?_
    refine MC.callV (C := RX2) (T := TX2) (N := 14) (As := [.int 1]) (rest := []) (wB := rC cI cZ o b σ κ ζ 1) (c_X2_no l D cI cZ cL o b σ κ ζ 0 1) ⟨hx, hb, hml, hown, hts⟩ q646 b_X2_no (n := 1) (by decide +kernel) ⟨Nat.le_of_ble_eq_true rfl, Nat.le_of_ble_eq_true rfl⟩ hK hP hD hS hA (sp0 _) (sp0 _) (ci := 2) rfl (q0 := 0) rfl rfl hl.1 rfl (Nat.le_of_ble_eq_true rfl) dX2_addDitch_34 ⟨Nat.le_of_ble_eq_true rfl, Nat.le_of_ble_eq_true rfl⟩ (fun H locs hP hD hS => ?_)
    subst hQ
    exact ri hx hb hr hlocks hK hP hD hS dX2_addDitch_37 (by rw [if_pos c_10, if_pos c_10]) (by rw [if_pos c_10])
  · refine lv_aload_n hx hb dX2_addDitch_13 rfl (lv_at hl 0 rfl) ?_
    refine lv_iload_n hx hb dX2_addDitch_14 rfl (lv_at hl 2 rfl) ?_
    refine MC.callV (C := RX2) (T := TX2) (N := 14) (As := [.int p1]) (rest := []) (wB := rC cI cZ o b σ κ ζ 0) (c_X2_isField l D cI cZ cL o b σ κ ζ 0 hst p1 _ rfl) ⟨hx, hb, hml, hown, hts⟩ q654 b_X2_isField (n := 1) (by decide +kernel) ⟨Nat.le_of_ble_eq_true rfl, Nat.le_of_ble_eq_true rfl⟩ hK hP hD hS hA (sp0 _) (sp0 _) (ci := 2) rfl (q0 := 0) rfl rfl hl.1 rfl (Nat.le_of_ble_eq_true rfl) dX2_addDitch_15 ⟨Nat.le_of_ble_eq_true rfl, Nat.le_of_ble_eq_true rfl⟩ (fun H locs hP hD hS => ?_)
    refine lv_if_eq (tgt := 32) hx hb dX2_addDitch_18 (by decide) (fun c_18 => ?_) (fun c_18 => ?_)
    · refine lv_aload_n hx hb dX2_addDitch_32 rfl (lv_at hl 0 rfl) ?_
      refine lv_iconst (v := 1) hx hb dX2_addDitch_33 (by decide) ?_
      refine MC.callV (C := RX2) (T := TX2) (N := 14) (As := [.int 1]) (rest := []) (wB := rC cI cZ o b σ κ ζ 1) (c_X2_no l D cI cZ cL o b σ κ ζ 0 1) ⟨hx, hb, hml, hown, hts⟩ q646 b_X2_no (n := 1) (by decide +kernel) ⟨Nat.le_of_ble_eq_true rfl, Nat.le_of_ble_eq_true rfl⟩ hK hP hD hS hA (sp0 _) (sp0 _) (ci := 2) rfl (q0 := 0) rfl rfl hl.1 rfl (Nat.le_of_ble_eq_true rfl) dX2_addDitch_34 ⟨Nat.le_of_ble_eq_true rfl, Nat.le_of_ble_eq_true rfl⟩ (fun H locs hP hD hS => ?_)
      subst hQ
      exact ri hx hb hr hlocks hK hP hD hS dX2_addDitch_37 (by rw [if_neg c_10, if_pos c_18, if_neg c_10, if_pos c_18]) (by rw [if_neg c_10, if_pos c_18])
    · refine lv_aload_n hx hb dX2_addDitch_21 rfl (lv_at hl 0 rfl) ?_
      refine lv_iload_n hx hb dX2_addDitch_22 rfl (lv_at hl 1 rfl) ?_
      refine lv_iload_n hx hb dX2_addDitch_23 rfl (lv_at hl 2 rfl) ?_
      refine lv_iload_n hx hb dX2_addDitch_24 rfl (lv_at hl 3 rfl) ?_
      refine lv_iconst (v := 0) hx hb dX2_addDitch_25 (by decide) ?_
      refine MC.callV (C := RX2) (T := TX2) (N := 14) (As := [.int p0, .int p1, .int p2, .int 0]) (rest := []) (wB := rC cI cZ o b (if p0 = p1 then σ else if inR p2 1 9 = 0 then σ else if k = 16 then σ else putD k p0 p1 p2 0 σ) κ ζ (if p0 = p1 then 2 else if inR p2 1 9 = 0 then 2 else if k = 16 then 3 else 0)) (c_X2_add l D cI cZ cL o b σ κ ζ 0 hst p0 p1 p2 0 (Or.inl rfl)) ⟨hx, hb, hml, hown, hts⟩ q658 b_X2_add (n := 4) (by decide +kernel) ⟨Nat.le_of_ble_eq_true rfl, Nat.le_of_ble_eq_true rfl⟩ hK hP hD hS hA (sp0 _) (sp0 _) (ci := 2) rfl (q0 := 0) rfl rfl hl.1 rfl (Nat.le_of_ble_eq_true rfl) dX2_addDitch_26 ⟨Nat.le_of_ble_eq_true rfl, Nat.le_of_ble_eq_true rfl⟩ (fun H locs hP hD hS => ?_)
      refine lv_goto (tgt := 37) hx hb dX2_addDitch_29 (by decide) ?_
      subst hQ
      exact ri hx hb hr hlocks hK hP hD hS dX2_addDitch_37 (by rw [if_neg c_10, if_neg c_18, if_neg c_10, if_neg c_18]) (by rw [if_neg c_10, if_neg c_18])

abbrev rmX2_addPump : Room := { frames := 2, cells := 0, slots := 0, locals := 46 }
theorem b_X2_addPump : Cond.instanceMethod yX2_addPump ∈ LW ∧ Cond.selects RX2 yX2_addPump yX2_addPump ∈ LW ∧ Cond.initialized RX2 ∈ LW ∧ Cond.code yX2_addPump cX2_addPump 4 (some .int) ∈ LW := ⟨q663, q664, q40, q665⟩
set_option maxHeartbeats 4000000 in
set_option maxRecDepth 100000 in
theorem c_X2_addPump (l : Launch) (D : va_G) (cI cZ cL : ClassId) {n k : Nat} (o : Nat) (b : Nat → Nat) (σ : Sg) (κ ζ : Nat → Int32) (th : Int32) (hst : Shp n k σ) (p0 p1 p2 : Int32) : MC l yX2_addPump cX2_addPump 4 (some .int) rmX2_addPump D (tZ cI cZ cL) [.ref o, .int p0, .int p1, .int p2] (rC cI cZ o b σ κ ζ th) (rC cI cZ o b (if hasF 0 σ p0 = 0 then σ else if p1 = -1 then (if p0 = p1 then σ else if inR p2 1 9 = 0 then σ else if k = 16 then σ else putD k p0 p1 p2 1 σ) else if hasF 0 σ p1 = 0 then σ else (if p0 = p1 then σ else if inR p2 1 9 = 0 then σ else if k = 16 then σ else putD k p0 p1 p2 1 σ)) κ ζ (if hasF 0 σ p0 = 0 then 1 else if p1 = -1 then (if p0 = p1 then 2 else if inR p2 1 9 = 0 then 2 else if k = 16 then 3 else 0) else if hasF 0 σ p1 = 0 then 1 else (if p0 = p1 then 2 else if inR p2 1 9 = 0 then 2 else if k = 16 then 3 else 0))) (some (.int (if hasF 0 σ p0 = 0 then 0 else if p1 = -1 then (if p0 = p1 then 0 else if inR p2 1 9 = 0 then 0 else if k = 16 then 0 else nI k) else if hasF 0 σ p1 = 0 then 0 else (if p0 = p1 then 0 else if inR p2 1 9 = 0 then 0 else if k = 16 then 0 else nI k)))) := by
  refine MC.of (by decide) (Nat.le_of_ble_eq_true rfl) ?_
  intro p e s m args below meth c A ls Q hx hb hml hr hts hown hlocks hA hP hD hK hS hl hQ
  have hown : s.vm.findClass RX2 = some m.cls := hown
  have hn10 := hst.1
  have hk16 := hst.2.1
  have hl : lv_has ls 4 [(0, .ref o), (1, .int p0), (2, .int p1), (3, .int p2)] := hl
  refine lv_aload_n hx hb dX2_addPump_0 rfl (lv_at hl 0 rfl) ?_
  refine lv_iconst (v := 0) hx hb dX2_addPump_1 (by decide) ?_
  refine x_put (C := RX2) (T := TX2) (N := 14) (ws2 := rC cI cZ o b σ κ ζ 0) hx hb hts in_wsX20 tyX2_ok nmX2 hown hK hP hD hS 0 rfl rfl 0 (by decide) q592 rfl (by decide +kernel) (Nat.le_of_ble_eq_true rfl) rfl dX2_addPump_2 (fun H locs hP hD hS => ?_)
  refine lv_aload_n hx hb dX2_addPump_5 rfl (lv_at hl 0 rfl) ?_
  refine lv_iload_n hx hb dX2_addPump_6 rfl (lv_at hl 1 rfl) ?_
  refine MC.callV (C := RX2) (T := TX2) (N := 14) (As := [.int p0]) (rest := []) (wB := rC cI cZ o b σ κ ζ 0) (c_X2_isField l D cI cZ cL o b σ κ ζ 0 hst p0 _ rfl) ⟨hx, hb, hml, hown, hts⟩ q654 b_X2_isField (n := 1) (by decide +kernel) ⟨Nat.le_of_ble_eq_true rfl, Nat.le_of_ble_eq_true rfl⟩ hK hP hD hS hA (sp0 _) (sp0 _) (ci := 2) rfl (q0 := 0) rfl rfl hl.1 rfl (Nat.le_of_ble_eq_true rfl) dX2_addPump_7 ⟨Nat.le_of_ble_eq_true rfl, Nat.le_of_ble_eq_true rfl⟩ (fun H locs hP hD hS => ?_)
  refine lv_if_eq (tgt := 37) hx hb dX2_addPump_10 (by decide) (fun c_10 => ?_) (fun c_10 => ?_)
  · refine lv_aload_n hx hb dX2_addPump_37 rfl (lv_at hl 0 rfl) ?_
    refine lv_iconst (v := 1) hx hb dX2_addPump_38 (by decide) ?_
    refine MC.callV (C := RX2) (T := TX2) (N := 14) (As := [.int 1]) (rest := []) (wB := rC cI cZ o b σ κ ζ 1) (c_X2_no l D cI cZ cL o b σ κ ζ 0 1) ⟨hx, hb, hml, hown, hts⟩ q646 b_X2_no (n := 1) (by decide +kernel) ⟨Nat.le_of_ble_eq_true rfl, Nat.le_of_ble_eq_true rfl⟩ hK hP hD hS hA (sp0 _) (sp0 _) (ci := 2) rfl (q0 := 0) rfl rfl hl.1 rfl (Nat.le_of_ble_eq_true rfl) dX2_addPump_39 ⟨Nat.le_of_ble_eq_true rfl, Nat.le_of_ble_eq_true rfl⟩ (fun H locs hP hD hS => ?_)
    subst hQ
    exact ri hx hb hr hlocks hK hP hD hS dX2_addPump_42 (by rw [if_pos c_10, if_pos c_10]) (by rw [if_pos c_10])
  · refine lv_iload_n hx hb dX2_addPump_13 rfl (lv_at hl 2 rfl) ?_
    refine lv_iconst (v := (-1)) hx hb dX2_addPump_14 (by decide) ?_
    refine lv_icmp_eq (tgt := 26) hx hb dX2_addPump_15 (by decide) (fun c_15 => ?_) (fun c_15 => ?_)
    · refine lv_aload_n hx hb dX2_addPump_26 rfl (lv_at hl 0 rfl) ?_
      refine lv_iload_n hx hb dX2_addPump_27 rfl (lv_at hl 1 rfl) ?_
      refine lv_iload_n hx hb dX2_addPump_28 rfl (lv_at hl 2 rfl) ?_
      refine lv_iload_n hx hb dX2_addPump_29 rfl (lv_at hl 3 rfl) ?_
      refine lv_iconst (v := 1) hx hb dX2_addPump_30 (by decide) ?_
      refine MC.callV (C := RX2) (T := TX2) (N := 14) (As := [.int p0, .int p1, .int p2, .int 1]) (rest := []) (wB := rC cI cZ o b (if p0 = p1 then σ else if inR p2 1 9 = 0 then σ else if k = 16 then σ else putD k p0 p1 p2 1 σ) κ ζ (if p0 = p1 then 2 else if inR p2 1 9 = 0 then 2 else if k = 16 then 3 else 0)) (c_X2_add l D cI cZ cL o b σ κ ζ 0 hst p0 p1 p2 1 (Or.inr rfl)) ⟨hx, hb, hml, hown, hts⟩ q658 b_X2_add (n := 4) (by decide +kernel) ⟨Nat.le_of_ble_eq_true rfl, Nat.le_of_ble_eq_true rfl⟩ hK hP hD hS hA (sp0 _) (sp0 _) (ci := 2) rfl (q0 := 0) rfl rfl hl.1 rfl (Nat.le_of_ble_eq_true rfl) dX2_addPump_31 ⟨Nat.le_of_ble_eq_true rfl, Nat.le_of_ble_eq_true rfl⟩ (fun H locs hP hD hS => ?_)
      refine lv_goto (tgt := 42) hx hb dX2_addPump_34 (by decide) ?_
      subst hQ
      exact ri hx hb hr hlocks hK hP hD hS dX2_addPump_42 (by rw [if_neg c_10, if_pos c_15, if_neg c_10, if_pos c_15]) (by rw [if_neg c_10, if_pos c_15])
    · refine lv_aload_n hx hb dX2_addPump_18 rfl (lv_at hl 0 rfl) ?_
      refine lv_iload_n hx hb dX2_addPump_19 rfl (lv_at hl 2 rfl) ?_
      refine MC.callV (C := RX2) (T := TX2) (N := 14) (As := [.int p1]) (rest := []) (wB := rC cI cZ o b σ κ ζ 0) (c_X2_isField l D cI cZ cL o b σ κ ζ 0 hst p1 _ rfl) ⟨hx, hb, hml, hown, hts⟩ q654 b_X2_isField (n := 1) (by decide +kernel) ⟨Nat.le_of_ble_eq_true rfl, Nat.le_of_ble_eq_true rfl⟩ hK hP hD hS hA (sp0 _) (sp0 _) (ci := 2) rfl (q0 := 0) rfl rfl hl.1 rfl (Nat.le_of_ble_eq_true rfl) dX2_addPump_20 ⟨Nat.le_of_ble_eq_true rfl, Nat.le_of_ble_eq_true rfl⟩ (fun H locs hP hD hS => ?_)
      refine lv_if_eq (tgt := 37) hx hb dX2_addPump_23 (by decide) (fun c_23 => ?_) (fun c_23 => ?_)
      · refine lv_aload_n hx hb dX2_addPump_37 rfl (lv_at hl 0 rfl) ?_
        refine lv_iconst (v := 1) hx hb dX2_addPump_38 (by decide) ?_
        refine MC.callV (C := RX2) (T := TX2) (N := 14) (As := [.int 1]) (rest := []) (wB := rC cI cZ o b σ κ ζ 1) (c_X2_no l D cI cZ cL o b σ κ ζ 0 1) ⟨hx, hb, hml, hown, hts⟩ q646 b_X2_no (n := 1) (by decide +kernel) ⟨Nat.le_of_ble_eq_true rfl, Nat.le_of_ble_eq_true rfl⟩ hK hP hD hS hA (sp0 _) (sp0 _) (ci := 2) rfl (q0 := 0) rfl rfl hl.1 rfl (Nat.le_of_ble_eq_true rfl) dX2_addPump_39 ⟨Nat.le_of_ble_eq_true rfl, Nat.le_of_ble_eq_true rfl⟩ (fun H locs hP hD hS => ?_)
        subst hQ
        exact ri hx hb hr hlocks hK hP hD hS dX2_addPump_42 (by rw [if_neg c_10, if_neg c_15, if_pos c_23, if_neg c_10, if_neg c_15, if_pos c_23]) (by rw [if_neg c_10, if_neg c_15, if_pos c_23])
      · refine lv_aload_n hx hb dX2_addPump_26 rfl (lv_at hl 0 rfl) ?_
        refine lv_iload_n hx hb dX2_addPump_27 rfl (lv_at hl 1 rfl) ?_
        refine lv_iload_n hx hb dX2_addPump_28 rfl (lv_at hl 2 rfl) ?_
        refine lv_iload_n hx hb dX2_addPump_29 rfl (lv_at hl 3 rfl) ?_
        refine lv_iconst (v := 1) hx hb dX2_addPump_30 (by decide) ?_
        refine MC.callV (C := RX2) (T := TX2) (N := 14) (As := [.int p0, .int p1, .int p2, .int 1]) (rest := []) (wB := rC cI cZ o b (if p0 = p1 then σ else if inR p2 1 9 = 0 then σ else if k = 16 then σ else putD k p0 p1 p2 1 σ) κ ζ (if p0 = p1 then 2 else if inR p2 1 9 = 0 then 2 else if k = 16 then 3 else 0)) (c_X2_add l D cI cZ cL o b σ κ ζ 0 hst p0 p1 p2 1 (Or.inr rfl)) ⟨hx, hb, hml, hown, hts⟩ q658 b_X2_add (n := 4) (by decide +kernel) ⟨Nat.le_of_ble_eq_true rfl, Nat.le_of_ble_eq_true rfl⟩ hK hP hD hS hA (sp0 _) (sp0 _) (ci := 2) rfl (q0 := 0) rfl rfl hl.1 rfl (Nat.le_of_ble_eq_true rfl) dX2_addPump_31 ⟨Nat.le_of_ble_eq_true rfl, Nat.le_of_ble_eq_true rfl⟩ (fun H locs hP hD hS => ?_)
        refine lv_goto (tgt := 42) hx hb dX2_addPump_34 (by decide) ?_
        subst hQ
        exact ri hx hb hr hlocks hK hP hD hS dX2_addPump_42 (by rw [if_neg c_10, if_neg c_15, if_neg c_23, if_neg c_10, if_neg c_15, if_neg c_23]) (by rw [if_neg c_10, if_neg c_15, if_neg c_23])
