abbrev rmX2_thrown : Room := { frames := 0, cells := 0, slots := 0, locals := 0 }
theorem b_X2_thrown : Cond.instanceMethod yX2_thrown ∈ LW ∧ Cond.selects RX2 yX2_thrown yX2_thrown ∈ LW ∧ Cond.initialized RX2 ∈ LW ∧ Cond.code yX2_thrown cX2_thrown 1 (some .int) ∈ LW := ⟨q636, q637, q40, q638⟩
set_option maxHeartbeats 4000000 in
set_option maxRecDepth 100000 in
theorem c_X2_thrown (l : Launch) (D : va_G) (cI cZ cL : ClassId) (o : Nat) (b : Nat → Nat) (σ : Sg) (κ ζ : Nat → Int32) (th : Int32) : MC l yX2_thrown cX2_thrown 1 (some .int) rmX2_thrown D (tZ cI cZ cL) [.ref o] (rC cI cZ o b σ κ ζ th) (rC cI cZ o b σ κ ζ th) (some (.int th)) := by
  refine MC.of (by decide) (Nat.le_of_ble_eq_true rfl) ?_
  intro p e s m args below meth c A ls Q hx hb hml hr hts hown hlocks hA hP hD hK hS hl hQ
  have hown : s.vm.findClass RX2 = some m.cls := hown
  have hl : lv_has ls 1 [(0, .ref o)] := hl
  refine lv_aload_n hx hb dX2_thrown_0 rfl (lv_at hl 0 rfl) ?_
  refine x_get (C := RX2) (T := TX2) (N := 14) hx hb hts in_wsX20 hown hK hP 0 rfl rfl 0 (by decide) q592 (v := .int th) rfl dX2_thrown_1 ?_
  subst hQ
  exact ri hx hb hr hlocks hK hP hD hS dX2_thrown_4 (rfl) (rfl)

abbrev rmX2_no : Room := { frames := 0, cells := 0, slots := 0, locals := 0 }
theorem b_X2_no : Cond.instanceMethod yX2_no ∈ LW ∧ Cond.selects RX2 yX2_no yX2_no ∈ LW ∧ Cond.initialized RX2 ∈ LW ∧ Cond.code yX2_no cX2_no 2 (some .int) ∈ LW := ⟨q648, q8, q40, q649⟩
set_option maxHeartbeats 4000000 in
set_option maxRecDepth 100000 in
theorem c_X2_no (l : Launch) (D : va_G) (cI cZ cL : ClassId) (o : Nat) (b : Nat → Nat) (σ : Sg) (κ ζ : Nat → Int32) (th : Int32) (x : Int32) : MC l yX2_no cX2_no 2 (some .int) rmX2_no D (tZ cI cZ cL) [.ref o, .int x] (rC cI cZ o b σ κ ζ th) (rC cI cZ o b σ κ ζ x) (some (.int 0)) := by
  refine MC.of (by decide) (Nat.le_of_ble_eq_true rfl) ?_
  intro p e s m args below meth c A ls Q hx hb hml hr hts hown hlocks hA hP hD hK hS hl hQ
  have hown : s.vm.findClass RX2 = some m.cls := hown
  have hl : lv_has ls 2 [(0, .ref o), (1, .int x)] := hl
  refine lv_aload_n hx hb dX2_no_0 rfl (lv_at hl 0 rfl) ?_
  refine lv_iload_n hx hb dX2_no_1 rfl (lv_at hl 1 rfl) ?_
  refine x_put (C := RX2) (T := TX2) (N := 14) (ws2 := rC cI cZ o b σ κ ζ x) hx hb hts in_wsX20 tyX2_ok nmX2 hown hK hP hD hS 0 rfl rfl 0 (by decide) q592 rfl (by decide +kernel) (Nat.le_of_ble_eq_true rfl) rfl dX2_no_2 (fun H locs hP hD hS => ?_)
  refine lv_iconst (v := 0) hx hb dX2_no_5 (by decide) ?_
  subst hQ
  exact ri hx hb hr hlocks hK hP hD hS dX2_no_6 (rfl) (rfl)

abbrev rmX2_isNot : Room := { frames := 0, cells := 0, slots := 0, locals := 0 }
theorem b_X2_isNot : Cond.instanceMethod yX2_isNot ∈ LW ∧ Cond.selects RX2 yX2_isNot yX2_isNot ∈ LW ∧ Cond.initialized RX2 ∈ LW ∧ Cond.code yX2_isNot cX2_isNot 2 (some .boolean) ∈ LW := ⟨q676, q12, q40, q677⟩
set_option maxHeartbeats 4000000 in
set_option maxRecDepth 100000 in
theorem c_X2_isNot (l : Launch) (D : va_G) (cI cZ cL : ClassId) (o : Nat) (b : Nat → Nat) (σ : Sg) (κ ζ : Nat → Int32) (th : Int32) (x : Int32) : MC l yX2_isNot cX2_isNot 2 (some .boolean) rmX2_isNot D (tZ cI cZ cL) [.ref o, .int x] (rC cI cZ o b σ κ ζ th) (rC cI cZ o b σ κ ζ x) (some (.int 0)) := by
  refine MC.of (by decide) (Nat.le_of_ble_eq_true rfl) ?_
  intro p e s m args below meth c A ls Q hx hb hml hr hts hown hlocks hA hP hD hK hS hl hQ
  have hown : s.vm.findClass RX2 = some m.cls := hown
  have hl : lv_has ls 2 [(0, .ref o), (1, .int x)] := hl
  refine lv_aload_n hx hb dX2_isNot_0 rfl (lv_at hl 0 rfl) ?_
  refine lv_iload_n hx hb dX2_isNot_1 rfl (lv_at hl 1 rfl) ?_
  refine x_put (C := RX2) (T := TX2) (N := 14) (ws2 := rC cI cZ o b σ κ ζ x) hx hb hts in_wsX20 tyX2_ok nmX2 hown hK hP hD hS 0 rfl rfl 0 (by decide) q592 rfl (by decide +kernel) (Nat.le_of_ble_eq_true rfl) rfl dX2_isNot_2 (fun H locs hP hD hS => ?_)
  refine lv_iconst (v := 0) hx hb dX2_isNot_5 (by decide) ?_
  subst hQ
  exact rz hx hb hr hlocks hK hP hD hS dX2_isNot_6 (by decide) (rfl) (rfl)

abbrev rmX2_ok : Room := { frames := 0, cells := 0, slots := 0, locals := 0 }
theorem b_X2_ok : Cond.instanceMethod yX2_ok ∈ LW ∧ Cond.selects RX2 yX2_ok yX2_ok ∈ LW ∧ Cond.initialized RX2 ∈ LW ∧ Cond.code yX2_ok cX2_ok 2 (some .int) ∈ LW := ⟨q726, q20, q40, q727⟩
set_option maxHeartbeats 4000000 in
set_option maxRecDepth 100000 in
theorem c_X2_ok (l : Launch) (D : va_G) (cI cZ cL : ClassId) (o : Nat) (b : Nat → Nat) (σ : Sg) (κ ζ : Nat → Int32) (th : Int32) (x : Int32) : MC l yX2_ok cX2_ok 2 (some .int) rmX2_ok D (tZ cI cZ cL) [.ref o, .int x] (rC cI cZ o b σ κ ζ th) (rC cI cZ o b σ κ ζ 0) (some (.int x)) := by
  refine MC.of (by decide) (Nat.le_of_ble_eq_true rfl) ?_
  intro p e s m args below meth c A ls Q hx hb hml hr hts hown hlocks hA hP hD hK hS hl hQ
  have hown : s.vm.findClass RX2 = some m.cls := hown
  have hl : lv_has ls 2 [(0, .ref o), (1, .int x)] := hl
  refine lv_aload_n hx hb dX2_ok_0 rfl (lv_at hl 0 rfl) ?_
  refine lv_iconst (v := 0) hx hb dX2_ok_1 (by decide) ?_
  refine x_put (C := RX2) (T := TX2) (N := 14) (ws2 := rC cI cZ o b σ κ ζ 0) hx hb hts in_wsX20 tyX2_ok nmX2 hown hK hP hD hS 0 rfl rfl 0 (by decide) q592 rfl (by decide +kernel) (Nat.le_of_ble_eq_true rfl) rfl dX2_ok_2 (fun H locs hP hD hS => ?_)
  refine lv_iload_n hx hb dX2_ok_5 rfl (lv_at hl 1 rfl) ?_
  subst hQ
  exact ri hx hb hr hlocks hK hP hD hS dX2_ok_6 (rfl) (rfl)

abbrev rmX2_isIn : Room := { frames := 0, cells := 0, slots := 0, locals := 0 }
theorem b_X2_isIn : Cond.static yX2_isIn ∈ LW ∧ Cond.initialized yX2_isIn.cls ∈ LW ∧ Cond.code yX2_isIn cX2_isIn 3 (some .boolean) ∈ LW := ⟨q644, q40, q645⟩
set_option maxHeartbeats 4000000 in
set_option maxRecDepth 100000 in
theorem c_X2_isIn (l : Launch) (D : va_G) (cI cZ cL : ClassId) (x y z : Int32) : MC l yX2_isIn cX2_isIn 3 (some .boolean) rmX2_isIn D (tZ cI cZ cL) [.int x, .int y, .int z] ([]) ([]) (some (.int (inR x y z))) := by
  refine MC.of (by decide) (Nat.le_of_ble_eq_true rfl) ?_
  intro p e s m args below meth c A ls Q hx hb hml hr hts hown hlocks hA hP hD hK hS hl hQ
  have hown : s.vm.findClass RX2 = some m.cls := hown
  have hl : lv_has ls 3 [(0, .int x), (1, .int y), (2, .int z)] := hl
  refine lv_iload_n hx hb dX2_isIn_0 rfl (lv_at hl 0 rfl) ?_
  refine lv_iload_n hx hb dX2_isIn_1 rfl (lv_at hl 1 rfl) ?_
  refine lv_icmp_lt (tgt := 14) hx hb dX2_isIn_2 (by decide) (fun c_2 => ?_) (fun c_2 => ?_)
  · refine lv_iconst (v := 0) hx hb dX2_isIn_14 (by decide) ?_
    subst hQ
    exact rz hx hb hr hlocks hK hP hD hS dX2_isIn_15 (by decide) (rfl) (by unfold inR; rw [if_neg (Int32.not_le.mpr c_2)])
  · refine lv_iload_n hx hb dX2_isIn_5 rfl (lv_at hl 0 rfl) ?_
    refine lv_iload_n hx hb dX2_isIn_6 rfl (lv_at hl 2 rfl) ?_
    refine lv_icmp_gt (tgt := 14) hx hb dX2_isIn_7 (by decide) (fun c_7 => ?_) (fun c_7 => ?_)
    · refine lv_iconst (v := 0) hx hb dX2_isIn_14 (by decide) ?_
      subst hQ
      exact rz hx hb hr hlocks hK hP hD hS dX2_isIn_15 (by decide) (rfl) (by unfold inR; rw [if_pos (Int32.not_lt.mp c_2), if_neg (Int32.not_le.mpr c_7)])
    · refine lv_iconst (v := 1) hx hb dX2_isIn_10 (by decide) ?_
      refine lv_goto (tgt := 15) hx hb dX2_isIn_11 (by decide) ?_
      subst hQ
      exact rz hx hb hr hlocks hK hP hD hS dX2_isIn_15 (by decide) (rfl) (by unfold inR; rw [if_pos (Int32.not_lt.mp c_2), if_pos (Int32.not_lt.mp c_7)])

abbrev rmX2_isField : Room := { frames := 1, cells := 0, slots := 0, locals := 22 }
theorem b_X2_isField : Cond.instanceMethod yX2_isField ∈ LW ∧ Cond.selects RX2 yX2_isField yX2_isField ∈ LW ∧ Cond.initialized RX2 ∈ LW ∧ Cond.code yX2_isField cX2_isField 2 (some .boolean) ∈ LW := ⟨q656, q9, q40, q657⟩
set_option maxHeartbeats 4000000 in
set_option maxRecDepth 100000 in
theorem c_X2_isField (l : Launch) (D : va_G) (cI cZ cL : ClassId) {n k : Nat} (o : Nat) (b : Nat → Nat) (σ : Sg) (κ ζ : Nat → Int32) (th : Int32) (hst : Shp n k σ) (x r : Int32) (hrr : hasF 0 σ x = r) : MC l yX2_isField cX2_isField 2 (some .boolean) rmX2_isField D (tZ cI cZ cL) [.ref o, .int x] (rC cI cZ o b σ κ ζ th) (rC cI cZ o b σ κ ζ th) (some (.int r)) := by
  refine MC.of (by decide) (Nat.le_of_ble_eq_true rfl) ?_
  intro p e s m args below meth c A ls Q hx hb hml hr hts hown hlocks hA hP hD hK hS hl hQ
  have hown : s.vm.findClass RX2 = some m.cls := hown
  have hn10 := hst.1
  have hk16 := hst.2.1
  have hl : lv_has ls 2 [(0, .ref o), (1, .int x)] := hl
  refine lv_iload_n hx hb dX2_isField_0 rfl (lv_at hl 1 rfl) ?_
  refine lv_iconst (v := 0) hx hb dX2_isField_1 (by decide) ?_
  refine lv_aload_n hx hb dX2_isField_2 rfl (lv_at hl 0 rfl) ?_
  refine x_get (C := RX2) (T := TX2) (N := 14) hx hb hts in_wsX20 hown hK hP 0 rfl rfl 1 (by decide) q593 (v := .int (nI n)) (congrArg (fun z => some (Value.int z)) (hst.f0)) dX2_isField_3 ?_
  refine lv_iconst (v := 1) hx hb dX2_isField_6 (by decide) ?_
  refine lv_isub hx hb dX2_isField_7 ?_
  refine MC.callS (As := [.int x, .int 0, .int ((nI n) - 1)]) (rest := []) (wB := rC cI cZ o b σ κ ζ th) (c_X2_isIn l D cI cZ cL x 0 ((nI n) - 1)) ⟨hx, hb, hml, hown, hts⟩ q643 b_X2_isIn (n := 3) (by decide +kernel) ⟨Nat.le_of_ble_eq_true rfl, Nat.le_of_ble_eq_true rfl⟩ hK hP hD hS hA (spE _) (spE _) rfl hl.1 rfl (Nat.le_of_ble_eq_true rfl) dX2_isField_8 ⟨Nat.le_of_ble_eq_true rfl, Nat.le_of_ble_eq_true rfl⟩ (fun H locs hP hD hS => ?_)
  subst hQ
  exact rz hx hb hr hlocks hK hP hD hS dX2_isField_11 (by rw [inR_hasF hst.f0 (by omega)]; unfold hasF; split; (split; exact Or.inr rfl; exact Or.inl rfl); exact Or.inl rfl) (rfl) (by rw [inR_hasF hst.f0 (by omega)]; exact hrr)

abbrev rmX2_isDrain : Room := { frames := 1, cells := 0, slots := 0, locals := 22 }
theorem b_X2_isDrain : Cond.instanceMethod yX2_isDrain ∈ LW ∧ Cond.selects RX2 yX2_isDrain yX2_isDrain ∈ LW ∧ Cond.initialized RX2 ∈ LW ∧ Cond.code yX2_isDrain cX2_isDrain 2 (some .boolean) ∈ LW := ⟨q672, q11, q40, q673⟩
set_option maxHeartbeats 4000000 in
set_option maxRecDepth 100000 in
theorem c_X2_isDrain (l : Launch) (D : va_G) (cI cZ cL : ClassId) {n k : Nat} (o : Nat) (b : Nat → Nat) (σ : Sg) (κ ζ : Nat → Int32) (th : Int32) (hst : Shp n k σ) (x r : Int32) (hrr : hasF 1 σ x = r) : MC l yX2_isDrain cX2_isDrain 2 (some .boolean) rmX2_isDrain D (tZ cI cZ cL) [.ref o, .int x] (rC cI cZ o b σ κ ζ th) (rC cI cZ o b σ κ ζ th) (some (.int r)) := by
  refine MC.of (by decide) (Nat.le_of_ble_eq_true rfl) ?_
  intro p e s m args below meth c A ls Q hx hb hml hr hts hown hlocks hA hP hD hK hS hl hQ
  have hown : s.vm.findClass RX2 = some m.cls := hown
  have hn10 := hst.1
  have hk16 := hst.2.1
  have hl : lv_has ls 2 [(0, .ref o), (1, .int x)] := hl
  refine lv_iload_n hx hb dX2_isDrain_0 rfl (lv_at hl 1 rfl) ?_
  refine lv_iconst (v := 0) hx hb dX2_isDrain_1 (by decide) ?_
  refine lv_aload_n hx hb dX2_isDrain_2 rfl (lv_at hl 0 rfl) ?_
  refine x_get (C := RX2) (T := TX2) (N := 14) hx hb hts in_wsX20 hown hK hP 0 rfl rfl 2 (by decide) q594 (v := .int (nI k)) (congrArg (fun z => some (Value.int z)) (hst.f1)) dX2_isDrain_3 ?_
  refine lv_iconst (v := 1) hx hb dX2_isDrain_6 (by decide) ?_
  refine lv_isub hx hb dX2_isDrain_7 ?_
  refine MC.callS (As := [.int x, .int 0, .int ((nI k) - 1)]) (rest := []) (wB := rC cI cZ o b σ κ ζ th) (c_X2_isIn l D cI cZ cL x 0 ((nI k) - 1)) ⟨hx, hb, hml, hown, hts⟩ q643 b_X2_isIn (n := 3) (by decide +kernel) ⟨Nat.le_of_ble_eq_true rfl, Nat.le_of_ble_eq_true rfl⟩ hK hP hD hS hA (spE _) (spE _) rfl hl.1 rfl (Nat.le_of_ble_eq_true rfl) dX2_isDrain_8 ⟨Nat.le_of_ble_eq_true rfl, Nat.le_of_ble_eq_true rfl⟩ (fun H locs hP hD hS => ?_)
  subst hQ
  exact rz hx hb hr hlocks hK hP hD hS dX2_isDrain_11 (by rw [inR_hasF hst.f1 (by omega)]; unfold hasF; split; (split; exact Or.inr rfl; exact Or.inl rfl); exact Or.inl rfl) (rfl) (by rw [inR_hasF hst.f1 (by omega)]; exact hrr)

abbrev rmX2_keep : Room := { frames := 1, cells := 0, slots := 0, locals := 60 }
theorem b_X2_keep : Cond.instanceMethod yX2_keep ∈ LW ∧ Cond.selects RX2 yX2_keep yX2_keep ∈ LW ∧ Cond.initialized RX2 ∈ LW ∧ Cond.code yX2_keep cX2_keep 1 none ∈ LW := ⟨q854, q31, q40, q855⟩
set_option maxHeartbeats 4000000 in
set_option maxRecDepth 100000 in
theorem c_X2_keep (l : Launch) (D : va_G) (cI cZ cL : ClassId) (o : Nat) (b : Nat → Nat) (σ : Sg) (κ ζ : Nat → Int32) (th : Int32) : MC l yX2_keep cX2_keep 1 none rmX2_keep D (tZ cI cZ cL) [.ref o] (rC cI cZ o b σ κ ζ th) (rC cI cZ o b σ (nowF σ) ζ th) (none) := by
  refine MC.of (by decide) (Nat.le_of_ble_eq_true rfl) ?_
  intro p e s m args below meth c A ls Q hx hb hml hr hts hown hlocks hA hP hD hK hS hl hQ
  have hown : s.vm.findClass RX2 = some m.cls := hown
  have hl : lv_has ls 1 [(0, .ref o)] := hl
  refine lv_aload_n hx hb dX2_keep_0 rfl (lv_at hl 0 rfl) ?_
  refine x_get (C := RX2) (T := TX2) (N := 14) hx hb hts in_wsX20 hown hK hP 0 rfl rfl 11 (by decide) q603 (v := .ref (b 7)) rfl dX2_keep_1 ?_
  refine lv_iconst (v := 0) hx hb dX2_keep_4 (by decide) ?_
  refine lv_aload_n hx hb dX2_keep_5 rfl (lv_at hl 0 rfl) ?_
  refine x_get (C := RX2) (T := TX2) (N := 14) hx hb hts in_wsX20 hown hK hP 0 rfl rfl 12 (by decide) q604 (v := .ref (b 8)) rfl dX2_keep_6 ?_
  refine lv_iconst (v := 0) hx hb dX2_keep_9 (by decide) ?_
  refine lv_bipush (v := 48) hx hb dX2_keep_10 (by decide) ?_
  refine va_copyi hx hb (by rw [hml]; exact hl.1.symm) hown (hts _ q856) (hts _ q858) (hts _ q857) (hts _ q49) hK hP hD hS 8 9 0 0 rfl rfl rfl rfl rfl (by decide) (by decide) (by decide) (by decide) (by decide) (fun _ _ => rfl) (Nat.le_of_ble_eq_true rfl) (Nat.le_of_ble_eq_true rfl) dX2_keep_12 (fun H locs hP hD hS => ?_)
  obtain ⟨hP, hD⟩ := kb_row (g := nowF σ) hP hD (k := 9) rfl (fun j hj => cpy48 _ _ hj)
  have hP : va_P D vwCl (rC cI cZ o b σ (nowF σ) ζ th) H := hP
  have hD : va_D A (rC cI cZ o b σ (nowF σ) ζ th) := hD
  subst hQ
  exact rv hx hb hr hlocks hK hP hD hS dX2_keep_15 (rfl)

abbrev rmX2_bringBack : Room := { frames := 1, cells := 0, slots := 0, locals := 60 }
theorem b_X2_bringBack : Cond.instanceMethod yX2_bringBack ∈ LW ∧ Cond.selects RX2 yX2_bringBack yX2_bringBack ∈ LW ∧ Cond.initialized RX2 ∈ LW ∧ Cond.code yX2_bringBack cX2_bringBack 1 none ∈ LW := ⟨q861, q32, q40, q862⟩
set_option maxHeartbeats 4000000 in
set_option maxRecDepth 100000 in
theorem c_X2_bringBack (l : Launch) (D : va_G) (cI cZ cL : ClassId) (o : Nat) (b : Nat → Nat) (σ : Sg) (κ ζ : Nat → Int32) (th : Int32) (ρ : Sg) (hag : Agr ρ σ) : MC l yX2_bringBack cX2_bringBack 1 none rmX2_bringBack D (tZ cI cZ cL) [.ref o] (rC cI cZ o b σ (nowF ρ) ζ th) (rC cI cZ o b ρ (nowF ρ) ζ th) (none) := by
  refine MC.of (by decide) (Nat.le_of_ble_eq_true rfl) ?_
  intro p e s m args below meth c A ls Q hx hb hml hr hts hown hlocks hA hP hD hK hS hl hQ
  have hown : s.vm.findClass RX2 = some m.cls := hown
  have hl : lv_has ls 1 [(0, .ref o)] := hl
  refine lv_aload_n hx hb dX2_bringBack_0 rfl (lv_at hl 0 rfl) ?_
  refine x_get (C := RX2) (T := TX2) (N := 14) hx hb hts in_wsX20 hown hK hP 0 rfl rfl 12 (by decide) q604 (v := .ref (b 8)) rfl dX2_bringBack_1 ?_
  refine lv_iconst (v := 0) hx hb dX2_bringBack_4 (by decide) ?_
  refine lv_aload_n hx hb dX2_bringBack_5 rfl (lv_at hl 0 rfl) ?_
  refine x_get (C := RX2) (T := TX2) (N := 14) hx hb hts in_wsX20 hown hK hP 0 rfl rfl 11 (by decide) q603 (v := .ref (b 7)) rfl dX2_bringBack_6 ?_
  refine lv_iconst (v := 0) hx hb dX2_bringBack_9 (by decide) ?_
  refine lv_bipush (v := 48) hx hb dX2_bringBack_10 (by decide) ?_
  refine va_copyi hx hb (by rw [hml]; exact hl.1.symm) hown (hts _ q856) (hts _ q858) (hts _ q857) (hts _ q49) hK hP hD hS 9 8 0 0 rfl rfl rfl rfl rfl (by decide) (by decide) (by decide) (by decide) (by decide) (fun _ _ => rfl) (Nat.le_of_ble_eq_true rfl) (Nat.le_of_ble_eq_true rfl) dX2_bringBack_12 (fun H locs hP hD hS => ?_)
  obtain ⟨hP, hD⟩ := kb_row (g := nowF ρ) hP hD (k := 8) rfl (fun j hj => cpy48 _ _ hj)
  have hP : va_P D vwCl ((rC cI cZ o b σ (nowF ρ) ζ th).set 8 (b 7, .inl (cI, 48, .inl (nowF ρ)))) H := hP
  have hD : va_D A ((rC cI cZ o b σ (nowF ρ) ζ th).set 8 (b 7, .inl (cI, 48, .inl (nowF ρ)))) := hD
  rw [rC_agr _ _ _ hag] at hP hD
  subst hQ
  exact rv hx hb hr hlocks hK hP hD hS dX2_bringBack_15 (rfl)

abbrev rmX2_water : Room := { frames := 0, cells := 0, slots := 0, locals := 0 }
theorem b_X2_water : Cond.instanceMethod yX2_water ∈ LW ∧ Cond.selects RX2 yX2_water yX2_water ∈ LW ∧ Cond.initialized RX2 ∈ LW ∧ Cond.code yX2_water cX2_water 2 (some .int) ∈ LW := ⟨q688, q13, q40, q689⟩
set_option maxHeartbeats 4000000 in
set_option maxRecDepth 100000 in
theorem c_X2_water (l : Launch) (D : va_G) (cI cZ cL : ClassId) (o : Nat) (b : Nat → Nat) (σ : Sg) (κ ζ : Nat → Int32) (th : Int32) (j : Nat) (hj : j < 10) : MC l yX2_water cX2_water 2 (some .int) rmX2_water D (tZ cI cZ cL) [.ref o, .int (nI j)] (rC cI cZ o b σ κ ζ th) (rC cI cZ o b σ κ ζ th) (some (.int (σ 2 j))) := by
  refine MC.of (by decide) (Nat.le_of_ble_eq_true rfl) ?_
  intro p e s m args below meth c A ls Q hx hb hml hr hts hown hlocks hA hP hD hK hS hl hQ
  have hown : s.vm.findClass RX2 = some m.cls := hown
  have hl : lv_has ls 2 [(0, .ref o), (1, .int (nI j))] := hl
  refine lv_aload_n hx hb dX2_water_0 rfl (lv_at hl 0 rfl) ?_
  refine x_get (C := RX2) (T := TX2) (N := 14) hx hb hts in_wsX20 hown hK hP 0 rfl rfl 11 (by decide) q603 (v := .ref (b 7)) rfl dX2_water_1 ?_
  refine lv_iconst (v := 2) hx hb dX2_water_4 (by decide) ?_
  refine lv_iload_n hx hb dX2_water_5 rfl (lv_at hl 1 rfl) ?_
  refine lv_iadd hx hb dX2_water_6 ?_
  refine x_ild hx hb hK hP 8 0 rfl rfl (2 + j) (nI_add 2 j) (by omega) (by decide) (v := σ 2 j) (nw_2 σ (by omega)) dX2_water_7 ?_
  subst hQ
  exact ri hx hb hr hlocks hK hP hD hS dX2_water_8 (rfl) (rfl)

abbrev rmX2_level : Room := { frames := 1, cells := 0, slots := 0, locals := 21 }
theorem b_X2_level : Cond.instanceMethod yX2_level ∈ LW ∧ Cond.selects RX2 yX2_level yX2_level ∈ LW ∧ Cond.initialized RX2 ∈ LW ∧ Cond.code yX2_level cX2_level 2 (some .int) ∈ LW := ⟨q717, q19, q40, q718⟩
set_option maxHeartbeats 4000000 in
set_option maxRecDepth 100000 in
theorem c_X2_level (l : Launch) (D : va_G) (cI cZ cL : ClassId) (o : Nat) (b : Nat → Nat) (σ : Sg) (κ ζ : Nat → Int32) (th : Int32) (j : Nat) (hj : j < 10) : MC l yX2_level cX2_level 2 (some .int) rmX2_level D (tZ cI cZ cL) [.ref o, .int (nI j)] (rC cI cZ o b σ κ ζ th) (rC cI cZ o b σ κ ζ th) (some (.int (σ 0 j + σ 2 j))) := by
  refine MC.of (by decide) (Nat.le_of_ble_eq_true rfl) ?_
  intro p e s m args below meth c A ls Q hx hb hml hr hts hown hlocks hA hP hD hK hS hl hQ
  have hown : s.vm.findClass RX2 = some m.cls := hown
  have hl : lv_has ls 2 [(0, .ref o), (1, .int (nI j))] := hl
  refine lv_aload_n hx hb dX2_level_0 rfl (lv_at hl 0 rfl) ?_
  refine x_get (C := RX2) (T := TX2) (N := 14) hx hb hts in_wsX20 hown hK hP 0 rfl rfl 4 (by decide) q596 (v := .ref (b 0)) rfl dX2_level_1 ?_
  refine lv_iload_n hx hb dX2_level_4 rfl (lv_at hl 1 rfl) ?_
  refine x_ild hx hb hK hP 1 0 rfl rfl j (rfl) (by omega) (by decide) (v := σ 0 j) rfl dX2_level_5 ?_
  refine lv_aload_n hx hb dX2_level_6 rfl (lv_at hl 0 rfl) ?_
  refine lv_iload_n hx hb dX2_level_7 rfl (lv_at hl 1 rfl) ?_
  refine MC.callV (C := RX2) (T := TX2) (N := 14) (As := [.int (nI j)]) (rest := [.int (σ 0 j)]) (wB := rC cI cZ o b σ κ ζ th) (c_X2_water l D cI cZ cL o b σ κ ζ th j (by omega)) ⟨hx, hb, hml, hown, hts⟩ q686 b_X2_water (n := 1) (by decide +kernel) ⟨Nat.le_of_ble_eq_true rfl, Nat.le_of_ble_eq_true rfl⟩ hK hP hD hS hA (sp0 _) (sp0 _) (ci := 2) rfl (q0 := 0) rfl rfl hl.1 rfl (Nat.le_of_ble_eq_true rfl) dX2_level_8 ⟨Nat.le_of_ble_eq_true rfl, Nat.le_of_ble_eq_true rfl⟩ (fun H locs hP hD hS => ?_)
  refine lv_iadd hx hb dX2_level_11 ?_
  subst hQ
  exact ri hx hb hr hlocks hK hP hD hS dX2_level_12 (rfl) (rfl)

abbrev rmX2_flow : Room := { frames := 2, cells := 0, slots := 0, locals := 60 }
theorem b_X2_flow : Cond.instanceMethod yX2_flow ∈ LW ∧ Cond.selects RX2 yX2_flow yX2_flow ∈ LW ∧ Cond.initialized RX2 ∈ LW ∧ Cond.code yX2_flow cX2_flow 4 (some .int) ∈ LW := ⟨q712, q18, q40, q713⟩
set_option maxHeartbeats 4000000 in
set_option maxRecDepth 100000 in
theorem c_X2_flow (l : Launch) (D : va_G) (cI cZ cL : ClassId) {n k : Nat} (o : Nat) (b : Nat → Nat) (σ : Sg) (κ ζ : Nat → Int32) (th : Int32) (hst : Shp n k σ) {B : Nat} (hB : Bnd B σ) (hB2 : B < 2 ^ 29) (j : Nat) (hj : j < k) : MC l yX2_flow cX2_flow 4 (some .int) rmX2_flow D (tZ cI cZ cL) [.ref o, .int (nI j)] (rC cI cZ o b σ κ ζ th) (rC cI cZ o b σ κ ζ th) (some (.int (flow σ j))) := by
  refine MC.of (by decide) (Nat.le_of_ble_eq_true rfl) ?_
  intro p e s m args below meth c A ls Q hx hb hml hr hts hown hlocks hA hP hD hK hS hl hQ
  have hown : s.vm.findClass RX2 = some m.cls := hown
  have hn10 := hst.1
  have hk16 := hst.2.1
  obtain ⟨a0, ha0, ea0⟩ := hst.2.2.2.2.1 j hj
  have hl : lv_has ls 4 [(0, .ref o), (1, .int (nI j))] := hl
  refine lv_aload_n hx hb dX2_flow_0 rfl (lv_at hl 0 rfl) ?_
  refine x_get (C := RX2) (T := TX2) (N := 14) hx hb hts in_wsX20 hown hK hP 0 rfl rfl 10 (by decide) q602 (v := .ref (b 6)) rfl dX2_flow_1 ?_
  refine lv_iload_n hx hb dX2_flow_4 rfl (lv_at hl 1 rfl) ?_
  refine x_zld hx hb hK hP 7 1 rfl rfl j (rfl) (by omega) (by decide) (v := σ 10 j) rfl dX2_flow_5 ?_
  refine lv_if_ne (tgt := 11) hx hb dX2_flow_6 (by decide) (fun c_6 => ?_) (fun c_6 => ?_)
  · refine lv_aload_n hx hb dX2_flow_11 rfl (lv_at hl 0 rfl) ?_
    refine x_get (C := RX2) (T := TX2) (N := 14) hx hb hts in_wsX20 hown hK hP 0 rfl rfl 9 (by decide) q601 (v := .ref (b 5)) rfl dX2_flow_12 ?_
    refine lv_iload_n hx hb dX2_flow_15 rfl (lv_at hl 1 rfl) ?_
    refine x_zld hx hb hK hP 6 1 rfl rfl j (rfl) (by omega) (by decide) (v := σ 9 j) rfl dX2_flow_16 ?_
    refine lv_if_eq (tgt := 40) hx hb dX2_flow_17 (by decide) (fun c_17 => ?_) (fun c_17 => ?_)
    · obtain ⟨b0, hb0, eb0⟩ : ∃ b, b < n ∧ σ 6 j = nI b := by
        rcases hst.2.2.2.2.2 j hj with q | q
        · exact absurd c_17 q.2
        · exact q
      refine lv_aload_n hx hb dX2_flow_40 rfl (lv_at hl 0 rfl) ?_
      refine lv_aload_n hx hb dX2_flow_41 rfl (lv_at hl 0 rfl) ?_
      refine x_get (C := RX2) (T := TX2) (N := 14) hx hb hts in_wsX20 hown hK hP 0 rfl rfl 6 (by decide) q598 (v := .ref (b 2)) rfl dX2_flow_42 ?_
      refine lv_iload_n hx hb dX2_flow_45 rfl (lv_at hl 1 rfl) ?_
      refine x_ild hx hb hK hP 3 0 rfl rfl j (rfl) (by omega) (by decide) (v := (nI a0)) (ea0) dX2_flow_46 ?_
      refine MC.callV (C := RX2) (T := TX2) (N := 14) (As := [.int (nI a0)]) (rest := []) (wB := rC cI cZ o b σ κ ζ th) (c_X2_level l D cI cZ cL o b σ κ ζ th a0 (by omega)) ⟨hx, hb, hml, hown, hts⟩ q715 b_X2_level (n := 1) (by decide +kernel) ⟨Nat.le_of_ble_eq_true rfl, Nat.le_of_ble_eq_true rfl⟩ hK hP hD hS hA (sp0 _) (sp0 _) (ci := 2) rfl (q0 := 0) rfl rfl hl.1 rfl (Nat.le_of_ble_eq_true rfl) dX2_flow_47 ⟨Nat.le_of_ble_eq_true rfl, Nat.le_of_ble_eq_true rfl⟩ (fun H locs hP hD hS => ?_)
      refine lv_aload_n hx hb dX2_flow_50 rfl (lv_at hl 0 rfl) ?_
      refine lv_aload_n hx hb dX2_flow_51 rfl (lv_at hl 0 rfl) ?_
      refine x_get (C := RX2) (T := TX2) (N := 14) hx hb hts in_wsX20 hown hK hP 0 rfl rfl 7 (by decide) q599 (v := .ref (b 3)) rfl dX2_flow_52 ?_
      refine lv_iload_n hx hb dX2_flow_55 rfl (lv_at hl 1 rfl) ?_
      refine x_ild hx hb hK hP 4 0 rfl rfl j (rfl) (by omega) (by decide) (v := (nI b0)) (eb0) dX2_flow_56 ?_
      refine MC.callV (C := RX2) (T := TX2) (N := 14) (As := [.int (nI b0)]) (rest := [.int (σ 0 a0 + σ 2 a0)]) (wB := rC cI cZ o b σ κ ζ th) (c_X2_level l D cI cZ cL o b σ κ ζ th b0 (by omega)) ⟨hx, hb, hml, hown, hts⟩ q715 b_X2_level (n := 1) (by decide +kernel) ⟨Nat.le_of_ble_eq_true rfl, Nat.le_of_ble_eq_true rfl⟩ hK hP hD hS hA (sp0 _) (sp0 _) (ci := 2) rfl (q0 := 0) rfl rfl hl.1 rfl (Nat.le_of_ble_eq_true rfl) dX2_flow_57 ⟨Nat.le_of_ble_eq_true rfl, Nat.le_of_ble_eq_true rfl⟩ (fun H locs hP hD hS => ?_)
      refine lv_isub hx hb dX2_flow_60 ?_
      refine lv_topi (fun v_1 ev_1 => ?_)
      refine lv_istore_n (lv' := [(2, .int v_1), (0, .ref o), (1, .int (nI j))]) hx hb dX2_flow_61 rfl hl (by decide) rfl (fun ls hl => ?_)
      refine lv_aload_n hx hb dX2_flow_62 rfl (lv_at hl 1 rfl) ?_
      refine x_get (C := RX2) (T := TX2) (N := 14) hx hb hts in_wsX20 hown hK hP 0 rfl rfl 8 (by decide) q600 (v := .ref (b 4)) rfl dX2_flow_63 ?_
      refine lv_iload_n hx hb dX2_flow_66 rfl (lv_at hl 2 rfl) ?_
      refine x_ild hx hb hK hP 5 0 rfl rfl j (rfl) (by omega) (by decide) (v := σ 7 j) rfl dX2_flow_67 ?_
      refine lv_iload_n hx hb dX2_flow_68 rfl (lv_at hl 0 rfl) ?_
      refine va_mabs hx hb (by rw [hml]; exact hl.1.symm) hown (hts _ q719) (hts _ q235) (hts _ q47) (hts _ q236) (by decide) (Nat.le_of_ble_eq_true rfl) (Nat.le_of_ble_eq_true rfl) (Nat.le_of_ble_eq_true rfl) dX2_flow_69 ?_
      refine x_top (show _ = ab v_1 from rfl) ?_
      refine lv_iconst (v := 2) hx hb dX2_flow_72 (by decide) ?_
      refine lv_idiv hx hb dX2_flow_73 (by decide) ?_
      refine va_mmin hx hb (by rw [hml]; exact hl.1.symm) hown (hts _ q714) (hts _ q224) (hts _ q47) (hts _ q225) (by decide) (Nat.le_of_ble_eq_true rfl) (Nat.le_of_ble_eq_true rfl) (Nat.le_of_ble_eq_true rfl) dX2_flow_74 ?_
      refine x_top (show _ = mn (σ 7 j) ((ab v_1) / 2) from rfl) ?_
      refine lv_topi (fun v_2 ev_2 => ?_)
      refine lv_istore_n (lv' := [(3, .int v_2), (2, .int v_1), (0, .ref o), (1, .int (nI j))]) hx hb dX2_flow_77 rfl hl (by decide) rfl (fun ls hl => ?_)
      refine lv_iload_n hx hb dX2_flow_78 rfl (lv_at hl 1 rfl) ?_
      refine lv_if_le (tgt := 99) hx hb dX2_flow_79 (by decide) (fun c_79 => ?_) (fun c_79 => ?_)
      · refine lv_iload_n hx hb dX2_flow_99 rfl (lv_at hl 0 rfl) ?_
        refine lv_aload_n hx hb dX2_flow_100 rfl (lv_at hl 2 rfl) ?_
        refine lv_aload_n hx hb dX2_flow_101 rfl (lv_at hl 2 rfl) ?_
        refine x_get (C := RX2) (T := TX2) (N := 14) hx hb hts in_wsX20 hown hK hP 0 rfl rfl 7 (by decide) q599 (v := .ref (b 3)) rfl dX2_flow_102 ?_
        refine lv_iload_n hx hb dX2_flow_105 rfl (lv_at hl 3 rfl) ?_
        refine x_ild hx hb hK hP 4 0 rfl rfl j (rfl) (by omega) (by decide) (v := (nI b0)) (eb0) dX2_flow_106 ?_
        refine MC.callV (C := RX2) (T := TX2) (N := 14) (As := [.int (nI b0)]) (rest := [.int v_2]) (wB := rC cI cZ o b σ κ ζ th) (c_X2_water l D cI cZ cL o b σ κ ζ th b0 (by omega)) ⟨hx, hb, hml, hown, hts⟩ q686 b_X2_water (n := 1) (by decide +kernel) ⟨Nat.le_of_ble_eq_true rfl, Nat.le_of_ble_eq_true rfl⟩ hK hP hD hS hA (sp0 _) (sp0 _) (ci := 2) rfl (q0 := 0) rfl rfl hl.1 rfl (Nat.le_of_ble_eq_true rfl) dX2_flow_107 ⟨Nat.le_of_ble_eq_true rfl, Nat.le_of_ble_eq_true rfl⟩ (fun H locs hP hD hS => ?_)
        refine va_mmin hx hb (by rw [hml]; exact hl.1.symm) hown (hts _ q714) (hts _ q224) (hts _ q47) (hts _ q225) (by decide) (Nat.le_of_ble_eq_true rfl) (Nat.le_of_ble_eq_true rfl) (Nat.le_of_ble_eq_true rfl) dX2_flow_110 ?_
        refine x_top (show _ = mn v_2 (σ 2 b0) from rfl) ?_
        refine lv_ineg hx hb dX2_flow_113 ?_
        subst hQ
        exact ri hx hb hr hlocks hK hP hD hS dX2_flow_114 (rfl) (by rw [flow_ref hst hB hB2 hj ha0 ea0 hb0 eb0 c_6 c_17, ← ev_1, if_neg (Int32.not_lt.mpr c_79), ev_2])
      · refine lv_iload_n hx hb dX2_flow_82 rfl (lv_at hl 0 rfl) ?_
        refine lv_aload_n hx hb dX2_flow_83 rfl (lv_at hl 2 rfl) ?_
        refine lv_aload_n hx hb dX2_flow_84 rfl (lv_at hl 2 rfl) ?_
        refine x_get (C := RX2) (T := TX2) (N := 14) hx hb hts in_wsX20 hown hK hP 0 rfl rfl 6 (by decide) q598 (v := .ref (b 2)) rfl dX2_flow_85 ?_
        refine lv_iload_n hx hb dX2_flow_88 rfl (lv_at hl 3 rfl) ?_
        refine x_ild hx hb hK hP 3 0 rfl rfl j (rfl) (by omega) (by decide) (v := (nI a0)) (ea0) dX2_flow_89 ?_
        refine MC.callV (C := RX2) (T := TX2) (N := 14) (As := [.int (nI a0)]) (rest := [.int v_2]) (wB := rC cI cZ o b σ κ ζ th) (c_X2_water l D cI cZ cL o b σ κ ζ th a0 (by omega)) ⟨hx, hb, hml, hown, hts⟩ q686 b_X2_water (n := 1) (by decide +kernel) ⟨Nat.le_of_ble_eq_true rfl, Nat.le_of_ble_eq_true rfl⟩ hK hP hD hS hA (sp0 _) (sp0 _) (ci := 2) rfl (q0 := 0) rfl rfl hl.1 rfl (Nat.le_of_ble_eq_true rfl) dX2_flow_90 ⟨Nat.le_of_ble_eq_true rfl, Nat.le_of_ble_eq_true rfl⟩ (fun H locs hP hD hS => ?_)
        refine va_mmin hx hb (by rw [hml]; exact hl.1.symm) hown (hts _ q714) (hts _ q224) (hts _ q47) (hts _ q225) (by decide) (Nat.le_of_ble_eq_true rfl) (Nat.le_of_ble_eq_true rfl) (Nat.le_of_ble_eq_true rfl) dX2_flow_93 ?_
        refine x_top (show _ = mn v_2 (σ 2 a0) from rfl) ?_
        refine lv_goto (tgt := 114) hx hb dX2_flow_96 (by decide) ?_
        subst hQ
        exact ri hx hb hr hlocks hK hP hD hS dX2_flow_114 (rfl) (by rw [flow_ref hst hB hB2 hj ha0 ea0 hb0 eb0 c_6 c_17, ← ev_1, if_pos (Int32.not_le.mp c_79), ev_2])
    · refine lv_aload_n hx hb dX2_flow_20 rfl (lv_at hl 0 rfl) ?_
      refine x_get (C := RX2) (T := TX2) (N := 14) hx hb hts in_wsX20 hown hK hP 0 rfl rfl 8 (by decide) q600 (v := .ref (b 4)) rfl dX2_flow_21 ?_
      refine lv_iload_n hx hb dX2_flow_24 rfl (lv_at hl 1 rfl) ?_
      refine x_ild hx hb hK hP 5 0 rfl rfl j (rfl) (by omega) (by decide) (v := σ 7 j) rfl dX2_flow_25 ?_
      refine lv_aload_n hx hb dX2_flow_26 rfl (lv_at hl 0 rfl) ?_
      refine lv_aload_n hx hb dX2_flow_27 rfl (lv_at hl 0 rfl) ?_
      refine x_get (C := RX2) (T := TX2) (N := 14) hx hb hts in_wsX20 hown hK hP 0 rfl rfl 6 (by decide) q598 (v := .ref (b 2)) rfl dX2_flow_28 ?_
      refine lv_iload_n hx hb dX2_flow_31 rfl (lv_at hl 1 rfl) ?_
      refine x_ild hx hb hK hP 3 0 rfl rfl j (rfl) (by omega) (by decide) (v := (nI a0)) (ea0) dX2_flow_32 ?_
      refine MC.callV (C := RX2) (T := TX2) (N := 14) (As := [.int (nI a0)]) (rest := [.int (σ 7 j)]) (wB := rC cI cZ o b σ κ ζ th) (c_X2_water l D cI cZ cL o b σ κ ζ th a0 (by omega)) ⟨hx, hb, hml, hown, hts⟩ q686 b_X2_water (n := 1) (by decide +kernel) ⟨Nat.le_of_ble_eq_true rfl, Nat.le_of_ble_eq_true rfl⟩ hK hP hD hS hA (sp0 _) (sp0 _) (ci := 2) rfl (q0 := 0) rfl rfl hl.1 rfl (Nat.le_of_ble_eq_true rfl) dX2_flow_33 ⟨Nat.le_of_ble_eq_true rfl, Nat.le_of_ble_eq_true rfl⟩ (fun H locs hP hD hS => ?_)
      refine va_mmin hx hb (by rw [hml]; exact hl.1.symm) hown (hts _ q714) (hts _ q224) (hts _ q47) (hts _ q225) (by decide) (Nat.le_of_ble_eq_true rfl) (Nat.le_of_ble_eq_true rfl) (Nat.le_of_ble_eq_true rfl) dX2_flow_36 ?_
      refine x_top (show _ = mn (σ 7 j) (σ 2 a0) from rfl) ?_
      subst hQ
      exact ri hx hb hr hlocks hK hP hD hS dX2_flow_39 (rfl) (by unfold flow; rw [ea0, nI_clamp (by omega)]; unfold flA; rw [if_neg c_6, if_pos c_17])
  · refine lv_iconst (v := 0) hx hb dX2_flow_9 (by decide) ?_
    subst hQ
    exact ri hx hb hr hlocks hK hP hD hS dX2_flow_10 (rfl) (by unfold flow flA; rw [if_pos c_6])

abbrev rmX2_carry : Room := { frames := 3, cells := 0, slots := 0, locals := 83 }
theorem b_X2_carry : Cond.instanceMethod yX2_carry ∈ LW ∧ Cond.selects RX2 yX2_carry yX2_carry ∈ LW ∧ Cond.initialized RX2 ∈ LW ∧ Cond.code yX2_carry cX2_carry 3 none ∈ LW := ⟨q708, q17, q40, q709⟩
set_option maxHeartbeats 4000000 in
set_option maxRecDepth 100000 in
theorem c_X2_carry (l : Launch) (D : va_G) (cI cZ cL : ClassId) {n k : Nat} (o : Nat) (b : Nat → Nat) (σ : Sg) (κ ζ : Nat → Int32) (th : Int32) (hst : Shp n k σ) {B : Nat} (hB : Bnd B σ) (hB2 : B < 2 ^ 29) (j : Nat) (hj : j < k) : MC l yX2_carry cX2_carry 3 none rmX2_carry D (tZ cI cZ cL) [.ref o, .int (nI j)] (rC cI cZ o b σ κ ζ th) (rC cI cZ o b (carryB j σ) κ ζ th) (none) := by
  refine MC.of (by decide) (Nat.le_of_ble_eq_true rfl) ?_
  intro p e s m args below meth c A ls Q hx hb hml hr hts hown hlocks hA hP hD hK hS hl hQ
  have hown : s.vm.findClass RX2 = some m.cls := hown
  have hn10 := hst.1
  have hk16 := hst.2.1
  obtain ⟨a0, ha0, ea0⟩ := hst.2.2.2.2.1 j hj
  have hl : lv_has ls 3 [(0, .ref o), (1, .int (nI j))] := hl
  refine lv_aload_n hx hb dX2_carry_0 rfl (lv_at hl 0 rfl) ?_
  refine lv_iload_n hx hb dX2_carry_1 rfl (lv_at hl 1 rfl) ?_
  refine MC.callV (C := RX2) (T := TX2) (N := 14) (As := [.int (nI j)]) (rest := []) (wB := rC cI cZ o b σ κ ζ th) (c_X2_flow l D cI cZ cL o b σ κ ζ th hst hB hB2 j hj) ⟨hx, hb, hml, hown, hts⟩ q710 b_X2_flow (n := 1) (by decide +kernel) ⟨Nat.le_of_ble_eq_true rfl, Nat.le_of_ble_eq_true rfl⟩ hK hP hD hS hA (sp0 _) (sp0 _) (ci := 2) rfl (q0 := 0) rfl rfl hl.1 rfl (Nat.le_of_ble_eq_true rfl) dX2_carry_2 ⟨Nat.le_of_ble_eq_true rfl, Nat.le_of_ble_eq_true rfl⟩ (fun H locs hP hD hS => ?_)
  refine lv_istore_n (lv' := [(2, .int (flow σ j)), (0, .ref o), (1, .int (nI j))]) hx hb dX2_carry_5 rfl hl (by decide) rfl (fun ls hl => ?_)
  refine lv_aload_n hx hb dX2_carry_6 rfl (lv_at hl 1 rfl) ?_
  refine x_get (C := RX2) (T := TX2) (N := 14) hx hb hts in_wsX20 hown hK hP 0 rfl rfl 11 (by decide) q603 (v := .ref (b 7)) rfl dX2_carry_7 ?_
  refine lv_bipush (v := 32) hx hb dX2_carry_10 (by decide) ?_
  refine lv_iload_n hx hb dX2_carry_12 rfl (lv_at hl 2 rfl) ?_
  refine lv_iadd hx hb dX2_carry_13 ?_
  refine lv_dup2_11 hx hb dX2_carry_14 rfl rfl ?_
  refine x_ild hx hb hK hP 8 0 rfl rfl (32 + j) (nI_add 32 j) (by omega) (by decide) (v := σ 8 j) (nw_32 σ j) dX2_carry_15 ?_
  refine lv_iload_n hx hb dX2_carry_16 rfl (lv_at hl 0 rfl) ?_
  refine va_mabs hx hb (by rw [hml]; exact hl.1.symm) hown (hts _ q719) (hts _ q235) (hts _ q47) (hts _ q236) (by decide) (Nat.le_of_ble_eq_true rfl) (Nat.le_of_ble_eq_true rfl) (Nat.le_of_ble_eq_true rfl) dX2_carry_17 ?_
  refine x_top (show _ = ab (flow σ j) from rfl) ?_
  refine lv_iadd hx hb dX2_carry_20 ?_
  refine x_ist (ws2 := rC cI cZ o b (su σ 8 j ((σ 8 j) + (ab (flow σ j)))) κ ζ th) hx hb hK hP hD hS 8 0 rfl rfl (32 + j) (nI_add 32 j) (by omega) (by decide) (by rw [nwu_32 σ j ((σ 8 j) + (ab (flow σ j)))]; rfl) dX2_carry_21 (fun H locs hP hD hS => ?_)
  refine lv_aload_n hx hb dX2_carry_22 rfl (lv_at hl 1 rfl) ?_
  refine x_get (C := RX2) (T := TX2) (N := 14) hx hb hts in_wsX20 hown hK hP 0 rfl rfl 11 (by decide) q603 (v := .ref (b 7)) rfl dX2_carry_23 ?_
  refine lv_iconst (v := 2) hx hb dX2_carry_26 (by decide) ?_
  refine lv_aload_n hx hb dX2_carry_27 rfl (lv_at hl 1 rfl) ?_
  refine x_get (C := RX2) (T := TX2) (N := 14) hx hb hts in_wsX20 hown hK hP 0 rfl rfl 6 (by decide) q598 (v := .ref (b 2)) rfl dX2_carry_28 ?_
  refine lv_iload_n hx hb dX2_carry_31 rfl (lv_at hl 2 rfl) ?_
  refine x_ild hx hb hK hP 3 0 rfl rfl j (rfl) (by omega) (by decide) (v := (nI a0)) ea0 dX2_carry_32 ?_
  refine lv_iadd hx hb dX2_carry_33 ?_
  refine lv_dup2_11 hx hb dX2_carry_34 rfl rfl ?_
  refine x_ild hx hb hK hP 8 0 rfl rfl (2 + a0) (nI_add 2 a0) (by omega) (by decide) (v := σ 2 a0) (nw_2 _ (by omega)) dX2_carry_35 ?_
  refine lv_iload_n hx hb dX2_carry_36 rfl (lv_at hl 0 rfl) ?_
  refine lv_isub hx hb dX2_carry_37 ?_
  refine x_ist (ws2 := rC cI cZ o b (su (su σ 8 j ((σ 8 j) + (ab (flow σ j)))) 2 a0 ((σ 2 a0) - (flow σ j))) κ ζ th) hx hb hK hP hD hS 8 0 rfl rfl (2 + a0) (nI_add 2 a0) (by omega) (by decide) (by rw [nwu_2 (su σ 8 j ((σ 8 j) + (ab (flow σ j)))) (f := a0) ((σ 2 a0) - (flow σ j)) (by omega)]; rfl) dX2_carry_38 (fun H locs hP hD hS => ?_)
  refine lv_aload_n hx hb dX2_carry_39 rfl (lv_at hl 1 rfl) ?_
  refine x_get (C := RX2) (T := TX2) (N := 14) hx hb hts in_wsX20 hown hK hP 0 rfl rfl 7 (by decide) q599 (v := .ref (b 3)) rfl dX2_carry_40 ?_
  refine lv_iload_n hx hb dX2_carry_43 rfl (lv_at hl 2 rfl) ?_
  refine x_ild hx hb hK hP 4 0 rfl rfl j (rfl) (by omega) (by decide) (v := σ 6 j) rfl dX2_carry_44 ?_
  refine lv_iconst (v := (-1)) hx hb dX2_carry_45 (by decide) ?_
  refine lv_icmp_ne (tgt := 62) hx hb dX2_carry_46 (by decide) (fun c_46 => ?_) (fun c_46 => ?_)
  · obtain ⟨b0, hb0, eb0⟩ : ∃ b, b < n ∧ σ 6 j = nI b := by
      rcases hst.2.2.2.2.2 j hj with q | q
      · exact absurd q.1 c_46
      · exact q
    refine lv_aload_n hx hb dX2_carry_62 rfl (lv_at hl 1 rfl) ?_
    refine x_get (C := RX2) (T := TX2) (N := 14) hx hb hts in_wsX20 hown hK hP 0 rfl rfl 11 (by decide) q603 (v := .ref (b 7)) rfl dX2_carry_63 ?_
    refine lv_iconst (v := 2) hx hb dX2_carry_66 (by decide) ?_
    refine lv_aload_n hx hb dX2_carry_67 rfl (lv_at hl 1 rfl) ?_
    refine x_get (C := RX2) (T := TX2) (N := 14) hx hb hts in_wsX20 hown hK hP 0 rfl rfl 7 (by decide) q599 (v := .ref (b 3)) rfl dX2_carry_68 ?_
    refine lv_iload_n hx hb dX2_carry_71 rfl (lv_at hl 2 rfl) ?_
    refine x_ild hx hb hK hP 4 0 rfl rfl j (rfl) (by omega) (by decide) (v := (nI b0)) eb0 dX2_carry_72 ?_
    refine lv_iadd hx hb dX2_carry_73 ?_
    refine lv_dup2_11 hx hb dX2_carry_74 rfl rfl ?_
    refine x_ild hx hb hK hP 8 0 rfl rfl (2 + b0) (nI_add 2 b0) (by omega) (by decide) (v := (su (su σ 8 j (σ 8 j + ab (flow σ j))) 2 a0 (σ 2 a0 - flow σ j)) 2 b0) (nw_2 _ (by omega)) dX2_carry_75 ?_
    refine lv_iload_n hx hb dX2_carry_76 rfl (lv_at hl 0 rfl) ?_
    refine lv_iadd hx hb dX2_carry_77 ?_
    refine x_ist (ws2 := rC cI cZ o b (su (su (su σ 8 j ((σ 8 j) + (ab (flow σ j)))) 2 a0 ((σ 2 a0) - (flow σ j))) 2 b0 (((su (su σ 8 j (σ 8 j + ab (flow σ j))) 2 a0 (σ 2 a0 - flow σ j)) 2 b0) + (flow σ j))) κ ζ th) hx hb hK hP hD hS 8 0 rfl rfl (2 + b0) (nI_add 2 b0) (by omega) (by decide) (by rw [nwu_2 (su (su σ 8 j ((σ 8 j) + (ab (flow σ j)))) 2 a0 ((σ 2 a0) - (flow σ j))) (f := b0) (((su (su σ 8 j (σ 8 j + ab (flow σ j))) 2 a0 (σ 2 a0 - flow σ j)) 2 b0) + (flow σ j)) (by omega)]; rfl) dX2_carry_78 (fun H locs hP hD hS => ?_)
    subst hQ
    exact rv hx hb hr hlocks hK hP hD hS dX2_carry_79 (by unfold carryB letF; rw [ea0, nI_clamp (by omega), if_neg c_46, eb0, nI_clamp (by omega)]; unfold addW; rw [← Int32.sub_eq_add_neg]; rw [su_comm σ j a0 _ _ (by decide : ¬ 8 = 2), su_comm (su σ 2 a0 (σ 2 a0 - flow σ j)) j b0 _ _ (by decide : ¬ 8 = 2)]; rfl)
  · refine lv_aload_n hx hb dX2_carry_49 rfl (lv_at hl 1 rfl) ?_
    refine x_get (C := RX2) (T := TX2) (N := 14) hx hb hts in_wsX20 hown hK hP 0 rfl rfl 11 (by decide) q603 (v := .ref (b 7)) rfl dX2_carry_50 ?_
    refine lv_iconst (v := 1) hx hb dX2_carry_53 (by decide) ?_
    refine lv_dup2_11 hx hb dX2_carry_54 rfl rfl ?_
    refine x_ild hx hb hK hP 8 0 rfl rfl 1 (rfl) (by omega) (by decide) (v := σ 11 3) rfl dX2_carry_55 ?_
    refine lv_iload_n hx hb dX2_carry_56 rfl (lv_at hl 0 rfl) ?_
    refine lv_iadd hx hb dX2_carry_57 ?_
    refine x_ist (ws2 := rC cI cZ o b (sc (su (su σ 8 j ((σ 8 j) + (ab (flow σ j)))) 2 a0 ((σ 2 a0) - (flow σ j))) 3 ((σ 11 3) + (flow σ j))) κ ζ th) hx hb hK hP hD hS 8 0 rfl rfl 1 (rfl) (by omega) (by decide) (by rw [nwu_1]; rfl) dX2_carry_58 (fun H locs hP hD hS => ?_)
    refine lv_goto (tgt := 79) hx hb dX2_carry_59 (by decide) ?_
    subst hQ
    exact rv hx hb hr hlocks hK hP hD hS dX2_carry_79 (by unfold carryB letF; rw [ea0, nI_clamp (by omega), if_pos c_46]; unfold addW; rw [← Int32.sub_eq_add_neg]; rw [su_comm σ j a0 _ _ (by decide : ¬ 8 = 2), su_sc (su σ 2 a0 (σ 2 a0 - flow σ j)) j 3 _ _ (by decide : ¬ 8 = 11)])

abbrev rmX2_hourOn : Room := { frames := 4, cells := 0, slots := 0, locals := 105 }
theorem b_X2_hourOn : Cond.instanceMethod yX2_hourOn ∈ LW ∧ Cond.selects RX2 yX2_hourOn yX2_hourOn ∈ LW ∧ Cond.initialized RX2 ∈ LW ∧ Cond.code yX2_hourOn cX2_hourOn 2 none ∈ LW := ⟨q704, q16, q40, q705⟩
set_option maxHeartbeats 4000000 in
set_option maxRecDepth 100000 in
theorem c_X2_hourOn (l : Launch) (D : va_G) (cI cZ cL : ClassId) {n k : Nat} (o : Nat) (b : Nat → Nat) (σ : Sg) (κ ζ : Nat → Int32) (th : Int32) (hst : Shp n k σ) {B : Nat} (hB : Bnd B σ) (hB2 : B + 400 < 2 ^ 29) : MC l yX2_hourOn cX2_hourOn 2 none rmX2_hourOn D (tZ cI cZ cL) [.ref o] (rC cI cZ o b σ κ ζ th) (rC cI cZ o b (hour σ) κ ζ th) (none) := by
  refine MC.of (by decide) (Nat.le_of_ble_eq_true rfl) ?_
  intro p e s m args below meth c A ls Q hx hb hml hr hts hown hlocks hA hP hD hK hS hl hQ
  have hown : s.vm.findClass RX2 = some m.cls := hown
  have hn10 := hst.1
  have hk16 := hst.2.1
  have hl : lv_has ls 2 [(0, .ref o)] := hl
  refine lv_iconst (v := 0) hx hb dX2_hourOn_0 (by decide) ?_
  refine lv_istore_n (lv' := [(1, .int 0), (0, .ref o)]) hx hb dX2_hourOn_1 rfl hl (by decide) rfl (fun ls hl => ?_)
  have hl : lv_has ls 2 [(1, .int (nI 0)), (0, .ref o)] := hl
  have L2 : ∀ (f i : Nat), i ≤ n → n < i + f → ∀ (H : Heap) (locs : List Loc) (ls : Array Slot), va_P D vwCl (rC cI cZ o b (it rainB i σ) κ ζ th) H → va_D A (rC cI cZ o b (it rainB i σ) κ ζ th) → va_S A s.heap H locs → lv_has ls 2 [(0, .ref o), (1, .int (nI i))] → W p l e rmX2_hourOn s m args below meth c H locs 0 0 Q (F0 m 2 ls []) := by
    intro f
    induction f with
    | zero => intro i h1 h2; exact absurd h2 (by omega)
    | succ f ih_2 =>
      intro i hi_2 hf_2 H locs ls hP hD hS hl
      obtain ⟨τ, eτ⟩ : ∃ z, z = it rainB i σ := ⟨_, rfl⟩
      rw [← eτ] at hP hD
      have hst9 : Shp n k τ := by rw [eτ]; exact hst.iter Shp.rain i
      refine lv_iload_n hx hb dX2_hourOn_2 rfl (lv_at hl 1 rfl) ?_
      refine lv_aload_n hx hb dX2_hourOn_3 rfl (lv_at hl 0 rfl) ?_
      refine x_get (C := RX2) (T := TX2) (N := 14) hx hb hts in_wsX20 hown hK hP 0 rfl rfl 1 (by decide) q593 (v := .int (nI n)) (congrArg (fun z => some (Value.int z)) (hst9.f0)) dX2_hourOn_4 ?_
      refine lv_icmp_ge (tgt := 31) hx hb dX2_hourOn_7 (by decide) (fun c_7 => ?_) (fun c_7 => ?_)
      · have hc_7 : n ≤ i := (nI_leI (a := n) (b := i) (by omega) (by omega)).mp c_7
        refine lv_iconst (v := 0) hx hb dX2_hourOn_31 (by decide) ?_
        refine lv_istore_n (lv' := [(1, .int 0), (0, .ref o)]) hx hb dX2_hourOn_32 rfl hl (by decide) rfl (fun ls hl => ?_)
        have eh1 : τ = hour1 σ := by rw [eτ]; unfold hour1; rw [hst.eF, show i = n by omega]
        rw [eh1] at hP hD
        have hs1 : Shp n k (hour1 σ) := hst.h1
        have hB1 : Bnd (B + 90) (hour1 σ) := hB.hr1 hst
        have hl : lv_has ls 2 [(1, .int (nI 0)), (0, .ref o)] := hl
        have L33 : ∀ (f j : Nat), j ≤ k → k < j + f → ∀ (H : Heap) (locs : List Loc) (ls : Array Slot), va_P D vwCl (rC cI cZ o b (it carryB j (hour1 σ)) κ ζ th) H → va_D A (rC cI cZ o b (it carryB j (hour1 σ)) κ ζ th) → va_S A s.heap H locs → lv_has ls 2 [(0, .ref o), (1, .int (nI j))] → W p l e rmX2_hourOn s m args below meth c H locs 0 0 Q (F0 m 33 ls []) := by
          intro f
          induction f with
          | zero => intro j h1 h2; exact absurd h2 (by omega)
          | succ f ih_33 =>
            intro j hi_33 hf_33 H locs ls hP hD hS hl
            obtain ⟨τ2, eτ2⟩ : ∃ z, z = it carryB j (hour1 σ) := ⟨_, rfl⟩
            rw [← eτ2] at hP hD
            have hst8 : Shp n k τ2 := by rw [eτ2]; exact hs1.iter Shp.carry j
            have hB8 : Bnd (B + 90 + 9 * j) τ2 := by rw [eτ2]; exact Bnd.h2 hs1 hB1 (by omega) j hi_33
            refine lv_iload_n hx hb dX2_hourOn_33 rfl (lv_at hl 1 rfl) ?_
            refine lv_aload_n hx hb dX2_hourOn_34 rfl (lv_at hl 0 rfl) ?_
            refine x_get (C := RX2) (T := TX2) (N := 14) hx hb hts in_wsX20 hown hK hP 0 rfl rfl 2 (by decide) q594 (v := .int (nI k)) (congrArg (fun z => some (Value.int z)) (hst8.f1)) dX2_hourOn_35 ?_
            refine lv_icmp_ge (tgt := 52) hx hb dX2_hourOn_38 (by decide) (fun c_38 => ?_) (fun c_38 => ?_)
            · have hc_38 : k ≤ j := (nI_leI (a := k) (b := j) (by omega) (by omega)).mp c_38
              refine lv_iconst (v := 0) hx hb dX2_hourOn_52 (by decide) ?_
              refine lv_istore_n (lv' := [(1, .int 0), (0, .ref o)]) hx hb dX2_hourOn_53 rfl hl (by decide) rfl (fun ls hl => ?_)
              have eh2 : τ2 = hour2 σ := by rw [eτ2]; unfold hour2; rw [hst.eD, show j = k by omega]
              rw [eh2] at hP hD
              have hs2 : Shp n k (hour2 σ) := hst.h2
              have hl : lv_has ls 2 [(1, .int (nI 0)), (0, .ref o)] := hl
              have L54 : ∀ (f q : Nat), q ≤ n → n < q + f → ∀ (H : Heap) (locs : List Loc) (ls : Array Slot), va_P D vwCl (rC cI cZ o b (it wetB q (hour2 σ)) κ ζ th) H → va_D A (rC cI cZ o b (it wetB q (hour2 σ)) κ ζ th) → va_S A s.heap H locs → lv_has ls 2 [(0, .ref o), (1, .int (nI q))] → W p l e rmX2_hourOn s m args below meth c H locs 0 0 Q (F0 m 54 ls []) := by
                intro f
                induction f with
                | zero => intro q h1 h2; exact absurd h2 (by omega)
                | succ f ih_54 =>
                  intro q hi_54 hf_54 H locs ls hP hD hS hl
                  obtain ⟨τ3, eτ3⟩ : ∃ z, z = it wetB q (hour2 σ) := ⟨_, rfl⟩
                  rw [← eτ3] at hP hD
                  have hst7 : Shp n k τ3 := by rw [eτ3]; exact hs2.iter Shp.wet q
                  refine lv_iload_n hx hb dX2_hourOn_54 rfl (lv_at hl 1 rfl) ?_
                  refine lv_aload_n hx hb dX2_hourOn_55 rfl (lv_at hl 0 rfl) ?_
                  refine x_get (C := RX2) (T := TX2) (N := 14) hx hb hts in_wsX20 hown hK hP 0 rfl rfl 1 (by decide) q593 (v := .int (nI n)) (congrArg (fun z => some (Value.int z)) (hst7.f0)) dX2_hourOn_56 ?_
                  refine lv_icmp_ge (tgt := 125) hx hb dX2_hourOn_59 (by decide) (fun c_59 => ?_) (fun c_59 => ?_)
                  · have hc_59 : n ≤ q := (nI_leI (a := n) (b := q) (by omega) (by omega)).mp c_59
                    have eh3 : τ3 = hour3 σ := by rw [eτ3]; unfold hour3; rw [hst.eF, show q = n by omega]
                    rw [eh3] at hP hD
                    refine lv_aload_n hx hb dX2_hourOn_125 rfl (lv_at hl 0 rfl) ?_
                    refine x_get (C := RX2) (T := TX2) (N := 14) hx hb hts in_wsX20 hown hK hP 0 rfl rfl 11 (by decide) q603 (v := .ref (b 7)) rfl dX2_hourOn_126 ?_
                    refine lv_iconst (v := 0) hx hb dX2_hourOn_129 (by decide) ?_
                    refine lv_dup2_11 hx hb dX2_hourOn_130 rfl rfl ?_
                    refine x_ild hx hb hK hP 8 0 rfl rfl 0 (rfl) (by omega) (by decide) (v := (hour3 σ) 11 4) rfl dX2_hourOn_131 ?_
                    refine lv_iconst (v := 1) hx hb dX2_hourOn_132 (by decide) ?_
                    refine lv_iadd hx hb dX2_hourOn_133 ?_
                    refine x_ist (ws2 := rC cI cZ o b (sc (hour3 σ) 4 (((hour3 σ) 11 4) + 1)) κ ζ th) hx hb hK hP hD hS 8 0 rfl rfl 0 (rfl) (by omega) (by decide) (by rw [nwu_0]; rfl) dX2_hourOn_134 (fun H locs hP hD hS => ?_)
                    subst hQ
                    exact rv hx hb hr hlocks hK hP hD hS dX2_hourOn_135 (rfl)
                  · have hc_59 : q < n := Nat.not_le.mp (fun z => c_59 ((nI_leI (a := n) (b := q) (by omega) (by omega)).mpr z))
                    refine lv_aload_n hx hb dX2_hourOn_62 rfl (lv_at hl 0 rfl) ?_
                    refine x_get (C := RX2) (T := TX2) (N := 14) hx hb hts in_wsX20 hown hK hP 0 rfl rfl 11 (by decide) q603 (v := .ref (b 7)) rfl dX2_hourOn_63 ?_
                    refine lv_bipush (v := 12) hx hb dX2_hourOn_66 (by decide) ?_
                    refine lv_iload_n hx hb dX2_hourOn_68 rfl (lv_at hl 1 rfl) ?_
                    refine lv_iadd hx hb dX2_hourOn_69 ?_
                    refine lv_aload_n hx hb dX2_hourOn_70 rfl (lv_at hl 0 rfl) ?_
                    refine lv_iload_n hx hb dX2_hourOn_71 rfl (lv_at hl 1 rfl) ?_
                    refine MC.callV (C := RX2) (T := TX2) (N := 14) (As := [.int (nI q)]) (rest := [.int (12 + (nI q)), .ref (b 7)]) (wB := rC cI cZ o b τ3 κ ζ th) (c_X2_water l D cI cZ cL o b τ3 κ ζ th q (by omega)) ⟨hx, hb, hml, hown, hts⟩ q686 b_X2_water (n := 1) (by decide +kernel) ⟨Nat.le_of_ble_eq_true rfl, Nat.le_of_ble_eq_true rfl⟩ hK hP hD hS hA (sp0 _) (sp0 _) (ci := 2) rfl (q0 := 0) rfl rfl hl.1 rfl (Nat.le_of_ble_eq_true rfl) dX2_hourOn_72 ⟨Nat.le_of_ble_eq_true rfl, Nat.le_of_ble_eq_true rfl⟩ (fun H locs hP hD hS => ?_)
                    refine lv_iconst (v := 4) hx hb dX2_hourOn_75 (by decide) ?_
                    have J94_1 : W p l e rmX2_hourOn s m args below meth c H locs 0 0 Q (F0 m 94 ls [.int (wv τ3 q), .int (12 + (nI q)), .ref (b 7)]) := by
                      refine x_ist (ws2 := rC cI cZ o b (su τ3 3 q (wv τ3 q)) κ ζ th) hx hb hK hP hD hS 8 0 rfl rfl (12 + q) (nI_add 12 q) (by omega) (by decide) (by rw [nwu_12 τ3 (f := q) (wv τ3 q) (by omega)]; rfl) dX2_hourOn_94 (fun H locs hP hD hS => ?_)
                      refine lv_aload_n hx hb dX2_hourOn_95 rfl (lv_at hl 0 rfl) ?_
                      refine x_get (C := RX2) (T := TX2) (N := 14) hx hb hts in_wsX20 hown hK hP 0 rfl rfl 11 (by decide) q603 (v := .ref (b 7)) rfl dX2_hourOn_96 ?_
                      refine lv_bipush (v := 12) hx hb dX2_hourOn_99 (by decide) ?_
                      refine lv_iload_n hx hb dX2_hourOn_101 rfl (lv_at hl 1 rfl) ?_
                      refine lv_iadd hx hb dX2_hourOn_102 ?_
                      refine x_ild hx hb hK hP 8 0 rfl rfl (12 + q) (nI_add 12 q) (by omega) (by decide) (v := wv τ3 q) ((nw_12 _ (by omega)).trans (su_in _ _ _ _)) dX2_hourOn_103 ?_
                      refine lv_bipush (v := 6) hx hb dX2_hourOn_104 (by decide) ?_
                      refine lv_icmp_lt (tgt := 119) hx hb dX2_hourOn_106 (by decide) (fun c_106 => ?_) (fun c_106 => ?_)
                      · refine lv_iinc (v := (nI (q + 1))) (lv' := [(1, .int (nI (q + 1))), (0, .ref o)]) hx hb dX2_hourOn_119 hl (k := 1) rfl (nI_add q 1) (by decide) rfl (fun ls hl => ?_)
                        refine lv_goto (tgt := 54) hx hb dX2_hourOn_122 (by decide) ?_
                        have e9 : su τ3 3 q (wv τ3 q) = it wetB (q + 1) (hour2 σ) := by
                          show _ = wetB q (it wetB q (hour2 σ))
                          rw [← eτ3]
                          unfold wetB
                          rw [if_neg (Int32.not_le.mpr c_106)]
                        rw [e9] at hP hD
                        exact ih_54 (q + 1) (by omega) (by omega) _ _ _ hP hD hS (lv_sub hl [1, 0] rfl)
                      · refine lv_aload_n hx hb dX2_hourOn_109 rfl (lv_at hl 0 rfl) ?_
                        refine x_get (C := RX2) (T := TX2) (N := 14) hx hb hts in_wsX20 hown hK hP 0 rfl rfl 11 (by decide) q603 (v := .ref (b 7)) rfl dX2_hourOn_110 ?_
                        refine lv_bipush (v := 22) hx hb dX2_hourOn_113 (by decide) ?_
                        refine lv_iload_n hx hb dX2_hourOn_115 rfl (lv_at hl 1 rfl) ?_
                        refine lv_iadd hx hb dX2_hourOn_116 ?_
                        refine lv_iconst (v := 1) hx hb dX2_hourOn_117 (by decide) ?_
                        refine x_ist (ws2 := rC cI cZ o b (su (su τ3 3 q (wv τ3 q)) 4 q 1) κ ζ th) hx hb hK hP hD hS 8 0 rfl rfl (22 + q) (nI_add 22 q) (by omega) (by decide) (by rw [nwu_22 (su τ3 3 q (wv τ3 q)) (f := q) 1 (by omega)]; rfl) dX2_hourOn_118 (fun H locs hP hD hS => ?_)
                        refine lv_iinc (v := (nI (q + 1))) (lv' := [(1, .int (nI (q + 1))), (0, .ref o)]) hx hb dX2_hourOn_119 hl (k := 1) rfl (nI_add q 1) (by decide) rfl (fun ls hl => ?_)
                        refine lv_goto (tgt := 54) hx hb dX2_hourOn_122 (by decide) ?_
                        have e9 : su (su τ3 3 q (wv τ3 q)) 4 q 1 = it wetB (q + 1) (hour2 σ) := by
                          show _ = wetB q (it wetB q (hour2 σ))
                          rw [← eτ3]
                          unfold wetB
                          rw [if_pos (Int32.not_lt.mp c_106)]
                        rw [e9] at hP hD
                        exact ih_54 (q + 1) (by omega) (by omega) _ _ _ hP hD hS (lv_sub hl [1, 0] rfl)
                    refine lv_icmp_ge (tgt := 83) hx hb dX2_hourOn_76 (by decide) (fun c_76 => ?_) (fun c_76 => ?_)
                    · refine lv_aload_n hx hb dX2_hourOn_83 rfl (lv_at hl 0 rfl) ?_
                      refine x_get (C := RX2) (T := TX2) (N := 14) hx hb hts in_wsX20 hown hK hP 0 rfl rfl 11 (by decide) q603 (v := .ref (b 7)) rfl dX2_hourOn_84 ?_
                      refine lv_bipush (v := 12) hx hb dX2_hourOn_87 (by decide) ?_
                      refine lv_iload_n hx hb dX2_hourOn_89 rfl (lv_at hl 1 rfl) ?_
                      refine lv_iadd hx hb dX2_hourOn_90 ?_
                      refine x_ild hx hb hK hP 8 0 rfl rfl (12 + q) (nI_add 12 q) (by omega) (by decide) (v := τ3 3 q) (nw_12 τ3 (by omega)) dX2_hourOn_91 ?_
                      refine lv_iconst (v := 1) hx hb dX2_hourOn_92 (by decide) ?_
                      refine lv_iadd hx hb dX2_hourOn_93 ?_
                      exact x_top (show τ3 3 q + 1 = wv τ3 q by unfold wv; rw [if_pos c_76]) J94_1
                    · refine lv_iconst (v := 0) hx hb dX2_hourOn_79 (by decide) ?_
                      refine lv_goto (tgt := 94) hx hb dX2_hourOn_80 (by decide) ?_
                      exact x_top (show 0 = wv τ3 q by unfold wv; rw [if_neg c_76]) J94_1
              exact L54 (n + 1) 0 (by omega) (by omega) _ _ _ hP hD hS (lv_sub hl [1, 0] rfl)
            · have hc_38 : j < k := Nat.not_le.mp (fun z => c_38 ((nI_leI (a := k) (b := j) (by omega) (by omega)).mpr z))
              refine lv_aload_n hx hb dX2_hourOn_41 rfl (lv_at hl 0 rfl) ?_
              refine lv_iload_n hx hb dX2_hourOn_42 rfl (lv_at hl 1 rfl) ?_
              refine MC.callV (C := RX2) (T := TX2) (N := 14) (As := [.int (nI j)]) (rest := []) (wB := rC cI cZ o b (carryB j τ2) κ ζ th) (c_X2_carry l D cI cZ cL o b τ2 κ ζ th hst8 hB8 (by omega) j (by omega)) ⟨hx, hb, hml, hown, hts⟩ q706 b_X2_carry (n := 1) (by decide +kernel) ⟨Nat.le_of_ble_eq_true rfl, Nat.le_of_ble_eq_true rfl⟩ hK hP hD hS hA (sp0 _) (sp0 _) (ci := 2) rfl (q0 := 0) rfl rfl hl.1 rfl (Nat.le_of_ble_eq_true rfl) dX2_hourOn_43 ⟨Nat.le_of_ble_eq_true rfl, Nat.le_of_ble_eq_true rfl⟩ (fun H locs hP hD hS => ?_)
              refine lv_iinc (v := (nI (j + 1))) (lv' := [(1, .int (nI (j + 1))), (0, .ref o)]) hx hb dX2_hourOn_46 hl (k := 1) rfl (nI_add j 1) (by decide) rfl (fun ls hl => ?_)
              refine lv_goto (tgt := 33) hx hb dX2_hourOn_49 (by decide) ?_
              have e9 : carryB j τ2 = it carryB (j + 1) (hour1 σ) := by rw [eτ2]; rfl
              rw [e9] at hP hD
              exact ih_33 (j + 1) (by omega) (by omega) _ _ _ hP hD hS (lv_sub hl [1, 0] rfl)
        exact L33 (k + 1) 0 (by omega) (by omega) _ _ _ hP hD hS (lv_sub hl [1, 0] rfl)
      · have hc_7 : i < n := Nat.not_le.mp (fun z => c_7 ((nI_leI (a := n) (b := i) (by omega) (by omega)).mpr z))
        refine lv_aload_n hx hb dX2_hourOn_10 rfl (lv_at hl 0 rfl) ?_
        refine x_get (C := RX2) (T := TX2) (N := 14) hx hb hts in_wsX20 hown hK hP 0 rfl rfl 11 (by decide) q603 (v := .ref (b 7)) rfl dX2_hourOn_11 ?_
        refine lv_iconst (v := 2) hx hb dX2_hourOn_14 (by decide) ?_
        refine lv_iload_n hx hb dX2_hourOn_15 rfl (lv_at hl 1 rfl) ?_
        refine lv_iadd hx hb dX2_hourOn_16 ?_
        refine lv_dup2_11 hx hb dX2_hourOn_17 rfl rfl ?_
        refine x_ild hx hb hK hP 8 0 rfl rfl (2 + i) (nI_add 2 i) (by omega) (by decide) (v := τ 2 i) (nw_2 τ (by omega)) dX2_hourOn_18 ?_
        refine lv_aload_n hx hb dX2_hourOn_19 rfl (lv_at hl 0 rfl) ?_
        refine x_get (C := RX2) (T := TX2) (N := 14) hx hb hts in_wsX20 hown hK hP 0 rfl rfl 3 (by decide) q595 (v := .int (τ 11 2)) rfl dX2_hourOn_20 ?_
        refine lv_iadd hx hb dX2_hourOn_23 ?_
        refine x_ist (ws2 := rC cI cZ o b (su τ 2 i ((τ 2 i) + (τ 11 2))) κ ζ th) hx hb hK hP hD hS 8 0 rfl rfl (2 + i) (nI_add 2 i) (by omega) (by decide) (by rw [nwu_2 τ (f := i) ((τ 2 i) + (τ 11 2)) (by omega)]; rfl) dX2_hourOn_24 (fun H locs hP hD hS => ?_)
        refine lv_iinc (v := (nI (i + 1))) (lv' := [(1, .int (nI (i + 1))), (0, .ref o)]) hx hb dX2_hourOn_25 hl (k := 1) rfl (nI_add i 1) (by decide) rfl (fun ls hl => ?_)
        refine lv_goto (tgt := 2) hx hb dX2_hourOn_28 (by decide) ?_
        have e9 : su τ 2 i ((τ 2 i) + (τ 11 2)) = it rainB (i + 1) σ := by rw [eτ]; rfl
        rw [e9] at hP hD
        exact ih_2 (i + 1) (by omega) (by omega) _ _ _ hP hD hS (lv_sub hl [1, 0] rfl)
  exact L2 (n + 1) 0 (by omega) (by omega) _ _ _ hP hD hS (lv_sub hl [1, 0] rfl)

abbrev rmX2_hoursOn : Room := { frames := 5, cells := 0, slots := 0, locals := 126 }
theorem b_X2_hoursOn : Cond.instanceMethod yX2_hoursOn ∈ LW ∧ Cond.selects RX2 yX2_hoursOn yX2_hoursOn ∈ LW ∧ Cond.initialized RX2 ∈ LW ∧ Cond.code yX2_hoursOn cX2_hoursOn 3 none ∈ LW := ⟨q700, q15, q40, q701⟩
set_option maxHeartbeats 4000000 in
set_option maxRecDepth 100000 in
theorem c_X2_hoursOn (l : Launch) (D : va_G) (cI cZ cL : ClassId) {n k : Nat} (o : Nat) (b : Nat → Nat) (σ : Sg) (κ ζ : Nat → Int32) (th : Int32) (hst : Shp n k σ) {B : Nat} (hB : Bnd B σ) (t : Nat) (hB2 : B + 234 * t + 400 < 2 ^ 29) : MC l yX2_hoursOn cX2_hoursOn 3 none rmX2_hoursOn D (tZ cI cZ cL) [.ref o, .int (nI t)] (rC cI cZ o b σ κ ζ th) (rC cI cZ o b (hours t σ) κ ζ th) (none) := by
  refine MC.of (by decide) (Nat.le_of_ble_eq_true rfl) ?_
  intro p e s m args below meth c A ls Q hx hb hml hr hts hown hlocks hA hP hD hK hS hl hQ
  have hown : s.vm.findClass RX2 = some m.cls := hown
  have hn10 := hst.1
  have hk16 := hst.2.1
  have hl : lv_has ls 3 [(0, .ref o), (1, .int (nI t))] := hl
  refine lv_iconst (v := 0) hx hb dX2_hoursOn_0 (by decide) ?_
  refine lv_istore_n (lv' := [(2, .int 0), (0, .ref o), (1, .int (nI t))]) hx hb dX2_hoursOn_1 rfl hl (by decide) rfl (fun ls hl => ?_)
  have hl : lv_has ls 3 [(2, .int (nI 0)), (0, .ref o), (1, .int (nI t))] := hl
  have L2 : ∀ (f i : Nat), i ≤ t → t < i + f → ∀ (H : Heap) (locs : List Loc) (ls : Array Slot), va_P D vwCl (rC cI cZ o b (hours i σ) κ ζ th) H → va_D A (rC cI cZ o b (hours i σ) κ ζ th) → va_S A s.heap H locs → lv_has ls 3 [(0, .ref o), (1, .int (nI t)), (2, .int (nI i))] → W p l e rmX2_hoursOn s m args below meth c H locs 0 0 Q (F0 m 2 ls []) := by
    intro f
    induction f with
    | zero => intro i h1 h2; exact absurd h2 (by omega)
    | succ f ih_2 =>
      intro i hi_2 hf_2 H locs ls hP hD hS hl
      obtain ⟨τ, eτ⟩ : ∃ z, z = hours i σ := ⟨_, rfl⟩
      rw [← eτ] at hP hD
      have hst9 : Shp n k τ := by rw [eτ]; exact hst.hrs i
      have hB9 : Bnd (B + 234 * i) τ := by rw [eτ]; exact Bnd.hrs hst hB i (by omega)
      refine lv_iload_n hx hb dX2_hoursOn_2 rfl (lv_at hl 2 rfl) ?_
      refine lv_iload_n hx hb dX2_hoursOn_3 rfl (lv_at hl 1 rfl) ?_
      refine lv_icmp_ge (tgt := 17) hx hb dX2_hoursOn_4 (by decide) (fun c_4 => ?_) (fun c_4 => ?_)
      · have hc_4 : t ≤ i := (nI_leI (a := t) (b := i) (by omega) (by omega)).mp c_4
        subst hQ
        exact rv hx hb hr hlocks hK hP hD hS dX2_hoursOn_17 (by rw [eτ, show i = t by omega])
      · have hc_4 : i < t := Nat.not_le.mp (fun z => c_4 ((nI_leI (a := t) (b := i) (by omega) (by omega)).mpr z))
        refine lv_aload_n hx hb dX2_hoursOn_7 rfl (lv_at hl 0 rfl) ?_
        refine MC.callV (C := RX2) (T := TX2) (N := 14) (As := []) (rest := []) (wB := rC cI cZ o b (hour τ) κ ζ th) (c_X2_hourOn l D cI cZ cL o b τ κ ζ th hst9 hB9 (by omega)) ⟨hx, hb, hml, hown, hts⟩ q702 b_X2_hourOn (n := 0) (by decide +kernel) ⟨Nat.le_of_ble_eq_true rfl, Nat.le_of_ble_eq_true rfl⟩ hK hP hD hS hA (sp0 _) (sp0 _) (ci := 2) rfl (q0 := 0) rfl rfl hl.1 rfl (Nat.le_of_ble_eq_true rfl) dX2_hoursOn_8 ⟨Nat.le_of_ble_eq_true rfl, Nat.le_of_ble_eq_true rfl⟩ (fun H locs hP hD hS => ?_)
        refine lv_iinc (v := (nI (i + 1))) (lv' := [(2, .int (nI (i + 1))), (0, .ref o), (1, .int (nI t))]) hx hb dX2_hoursOn_11 hl (k := 2) rfl (nI_add i 1) (by decide) rfl (fun ls hl => ?_)
        refine lv_goto (tgt := 2) hx hb dX2_hoursOn_14 (by decide) ?_
        have e9 : hour τ = hours (i + 1) σ := by rw [eτ]; rfl
        rw [e9] at hP hD
        exact ih_2 (i + 1) (by omega) (by omega) _ _ _ hP hD hS (lv_sub hl [1, 2, 0] rfl)
  exact L2 (t + 1) 0 (by omega) (by omega) _ _ _ hP hD hS (lv_sub hl [1, 2, 0] rfl)

abbrev rmX2_ruined : Room := { frames := 0, cells := 0, slots := 0, locals := 0 }
theorem b_X2_ruined : Cond.instanceMethod yX2_ruined ∈ LW ∧ Cond.selects RX2 yX2_ruined yX2_ruined ∈ LW ∧ Cond.initialized RX2 ∈ LW ∧ Cond.code yX2_ruined cX2_ruined 3 (some .int) ∈ LW := ⟨q696, q14, q40, q697⟩
set_option maxHeartbeats 4000000 in
set_option maxRecDepth 100000 in
theorem c_X2_ruined (l : Launch) (D : va_G) (cI cZ cL : ClassId) {n k : Nat} (o : Nat) (b : Nat → Nat) (σ : Sg) (κ ζ : Nat → Int32) (th : Int32) (hst : Shp n k σ) {B : Nat} (hB : Bnd B σ) : MC l yX2_ruined cX2_ruined 3 (some .int) rmX2_ruined D (tZ cI cZ cL) [.ref o] (rC cI cZ o b σ κ ζ th) (rC cI cZ o b σ κ ζ th) (some (.int (ruinN σ))) := by
  refine MC.of (by decide) (Nat.le_of_ble_eq_true rfl) ?_
  intro p e s m args below meth c A ls Q hx hb hml hr hts hown hlocks hA hP hD hK hS hl hQ
  have hown : s.vm.findClass RX2 = some m.cls := hown
  have hn10 := hst.1
  have hk16 := hst.2.1
  have hl : lv_has ls 3 [(0, .ref o)] := hl
  refine lv_iconst (v := 0) hx hb dX2_ruined_0 (by decide) ?_
  refine lv_istore_n (lv' := [(1, .int 0), (0, .ref o)]) hx hb dX2_ruined_1 rfl hl (by decide) rfl (fun ls hl => ?_)
  refine lv_iconst (v := 0) hx hb dX2_ruined_2 (by decide) ?_
  refine lv_istore_n (lv' := [(2, .int 0), (1, .int 0), (0, .ref o)]) hx hb dX2_ruined_3 rfl hl (by decide) rfl (fun ls hl => ?_)
  have hl : lv_has ls 3 [(2, .int (nI 0)), (1, .int (sumI (fun f => if σ 4 f = 0 then 0 else 1) 0)), (0, .ref o)] := hl
  have L4 : ∀ (f i : Nat), i ≤ n → n < i + f → ∀ (H : Heap) (locs : List Loc) (ls : Array Slot), va_P D vwCl (rC cI cZ o b σ κ ζ th) H → va_D A (rC cI cZ o b σ κ ζ th) → va_S A s.heap H locs → lv_has ls 3 [(0, .ref o), (1, .int (sumI (fun f => if σ 4 f = 0 then 0 else 1) i)), (2, .int (nI i))] → W p l e rmX2_ruined s m args below meth c H locs 0 0 Q (F0 m 4 ls []) := by
    intro f
    induction f with
    | zero => intro i h1 h2; exact absurd h2 (by omega)
    | succ f ih_4 =>
      intro i hi_4 hf_4 H locs ls hP hD hS hl
      refine lv_iload_n hx hb dX2_ruined_4 rfl (lv_at hl 2 rfl) ?_
      refine lv_aload_n hx hb dX2_ruined_5 rfl (lv_at hl 0 rfl) ?_
      refine x_get (C := RX2) (T := TX2) (N := 14) hx hb hts in_wsX20 hown hK hP 0 rfl rfl 1 (by decide) q593 (v := .int (nI n)) (congrArg (fun z => some (Value.int z)) (hst.f0)) dX2_ruined_6 ?_
      refine lv_icmp_ge (tgt := 30) hx hb dX2_ruined_9 (by decide) (fun c_9 => ?_) (fun c_9 => ?_)
      · have hc_9 : n ≤ i := (nI_leI (a := n) (b := i) (by omega) (by omega)).mp c_9
        refine lv_iload_n hx hb dX2_ruined_30 rfl (lv_at hl 1 rfl) ?_
        subst hQ
        exact ri hx hb hr hlocks hK hP hD hS dX2_ruined_31 (rfl) (by unfold ruinN; rw [hst.eF, show i = n by omega])
      · have hc_9 : i < n := Nat.not_le.mp (fun z => c_9 ((nI_leI (a := n) (b := i) (by omega) (by omega)).mpr z))
        refine lv_iload_n hx hb dX2_ruined_12 rfl (lv_at hl 1 rfl) ?_
        refine lv_aload_n hx hb dX2_ruined_13 rfl (lv_at hl 0 rfl) ?_
        refine x_get (C := RX2) (T := TX2) (N := 14) hx hb hts in_wsX20 hown hK hP 0 rfl rfl 11 (by decide) q603 (v := .ref (b 7)) rfl dX2_ruined_14 ?_
        refine lv_bipush (v := 22) hx hb dX2_ruined_17 (by decide) ?_
        refine lv_iload_n hx hb dX2_ruined_19 rfl (lv_at hl 2 rfl) ?_
        refine lv_iadd hx hb dX2_ruined_20 ?_
        refine x_ild hx hb hK hP 8 0 rfl rfl (22 + i) (nI_add 22 i) (by omega) (by decide) (v := σ 4 i) (nw_22 σ (by omega)) dX2_ruined_21 ?_
        refine lv_iadd hx hb dX2_ruined_22 ?_
        refine lv_topi (fun v_1 ev_1 => ?_)
        refine lv_istore_n (lv' := [(1, .int v_1), (0, .ref o), (2, .int (nI i))]) hx hb dX2_ruined_23 rfl hl (by decide) rfl (fun ls hl => ?_)
        refine lv_iinc (v := (nI (i + 1))) (lv' := [(2, .int (nI (i + 1))), (1, .int v_1), (0, .ref o)]) hx hb dX2_ruined_24 hl (k := 2) rfl (nI_add i 1) (by decide) rfl (fun ls hl => ?_)
        refine lv_goto (tgt := 4) hx hb dX2_ruined_27 (by decide) ?_
        have e8 : v_1 = sumI (fun f => if σ 4 f = 0 then 0 else 1) (i + 1) := by
          rw [ev_1]
          show _ = sumI (fun f => if σ 4 f = 0 then 0 else 1) i + (fun f => if σ 4 f = 0 then 0 else 1) i
          congr 1
          show σ 4 i = if σ 4 i = 0 then 0 else 1
          rcases hB.2.2.2.2.1 i (by omega) with z | z <;> rw [z] <;> rfl
        rw [e8] at hl
        exact ih_4 (i + 1) (by omega) (by omega) _ _ _ hP hD hS (lv_sub hl [2, 1, 0] rfl)
  exact L4 (n + 1) 0 (by omega) (by omega) _ _ _ hP hD hS (lv_sub hl [2, 1, 0] rfl)

abbrev rmX2_lost : Room := { frames := 0, cells := 0, slots := 0, locals := 0 }
theorem b_X2_lost : Cond.instanceMethod yX2_lost ∈ LW ∧ Cond.selects RX2 yX2_lost yX2_lost ∈ LW ∧ Cond.initialized RX2 ∈ LW ∧ Cond.code yX2_lost cX2_lost 3 (some .int) ∈ LW := ⟨q770, q23, q40, q771⟩
set_option maxHeartbeats 4000000 in
set_option maxRecDepth 100000 in
theorem c_X2_lost (l : Launch) (D : va_G) (cI cZ cL : ClassId) {n k : Nat} (o : Nat) (b : Nat → Nat) (σ : Sg) (κ ζ : Nat → Int32) (th : Int32) (hst : Shp n k σ) {B : Nat} (hB : Bnd B σ) : MC l yX2_lost cX2_lost 3 (some .int) rmX2_lost D (tZ cI cZ cL) [.ref o] (rC cI cZ o b σ κ ζ th) (rC cI cZ o b σ κ ζ th) (some (.int (lost σ))) := by
  refine MC.of (by decide) (Nat.le_of_ble_eq_true rfl) ?_
  intro p e s m args below meth c A ls Q hx hb hml hr hts hown hlocks hA hP hD hK hS hl hQ
  have hown : s.vm.findClass RX2 = some m.cls := hown
  have hn10 := hst.1
  have hk16 := hst.2.1
  have hl : lv_has ls 3 [(0, .ref o)] := hl
  refine lv_iconst (v := 0) hx hb dX2_lost_0 (by decide) ?_
  refine lv_istore_n (lv' := [(1, .int 0), (0, .ref o)]) hx hb dX2_lost_1 rfl hl (by decide) rfl (fun ls hl => ?_)
  refine lv_iconst (v := 0) hx hb dX2_lost_2 (by decide) ?_
  refine lv_istore_n (lv' := [(2, .int 0), (1, .int 0), (0, .ref o)]) hx hb dX2_lost_3 rfl hl (by decide) rfl (fun ls hl => ?_)
  have hl : lv_has ls 3 [(2, .int (nI 0)), (1, .int (sumI (fun f => if σ 4 f = 0 then 0 else σ 1 f) 0)), (0, .ref o)] := hl
  have L4 : ∀ (f i : Nat), i ≤ n → n < i + f → ∀ (H : Heap) (locs : List Loc) (ls : Array Slot), va_P D vwCl (rC cI cZ o b σ κ ζ th) H → va_D A (rC cI cZ o b σ κ ζ th) → va_S A s.heap H locs → lv_has ls 3 [(0, .ref o), (1, .int (sumI (fun f => if σ 4 f = 0 then 0 else σ 1 f) i)), (2, .int (nI i))] → W p l e rmX2_lost s m args below meth c H locs 0 0 Q (F0 m 4 ls []) := by
    intro f
    induction f with
    | zero => intro i h1 h2; exact absurd h2 (by omega)
    | succ f ih_4 =>
      intro i hi_4 hf_4 H locs ls hP hD hS hl
      refine lv_iload_n hx hb dX2_lost_4 rfl (lv_at hl 2 rfl) ?_
      refine lv_aload_n hx hb dX2_lost_5 rfl (lv_at hl 0 rfl) ?_
      refine x_get (C := RX2) (T := TX2) (N := 14) hx hb hts in_wsX20 hown hK hP 0 rfl rfl 1 (by decide) q593 (v := .int (nI n)) (congrArg (fun z => some (Value.int z)) (hst.f0)) dX2_lost_6 ?_
      refine lv_icmp_ge (tgt := 37) hx hb dX2_lost_9 (by decide) (fun c_9 => ?_) (fun c_9 => ?_)
      · have hc_9 : n ≤ i := (nI_leI (a := n) (b := i) (by omega) (by omega)).mp c_9
        refine lv_iload_n hx hb dX2_lost_37 rfl (lv_at hl 1 rfl) ?_
        subst hQ
        exact ri hx hb hr hlocks hK hP hD hS dX2_lost_38 (rfl) (by unfold lost; rw [hst.eF, show i = n by omega])
      · have hc_9 : i < n := Nat.not_le.mp (fun z => c_9 ((nI_leI (a := n) (b := i) (by omega) (by omega)).mpr z))
        refine lv_iload_n hx hb dX2_lost_12 rfl (lv_at hl 1 rfl) ?_
        refine lv_aload_n hx hb dX2_lost_13 rfl (lv_at hl 0 rfl) ?_
        refine x_get (C := RX2) (T := TX2) (N := 14) hx hb hts in_wsX20 hown hK hP 0 rfl rfl 11 (by decide) q603 (v := .ref (b 7)) rfl dX2_lost_14 ?_
        refine lv_bipush (v := 22) hx hb dX2_lost_17 (by decide) ?_
        refine lv_iload_n hx hb dX2_lost_19 rfl (lv_at hl 2 rfl) ?_
        refine lv_iadd hx hb dX2_lost_20 ?_
        refine x_ild hx hb hK hP 8 0 rfl rfl (22 + i) (nI_add 22 i) (by omega) (by decide) (v := σ 4 i) (nw_22 σ (by omega)) dX2_lost_21 ?_
        refine lv_aload_n hx hb dX2_lost_22 rfl (lv_at hl 0 rfl) ?_
        refine x_get (C := RX2) (T := TX2) (N := 14) hx hb hts in_wsX20 hown hK hP 0 rfl rfl 5 (by decide) q597 (v := .ref (b 1)) rfl dX2_lost_23 ?_
        refine lv_iload_n hx hb dX2_lost_26 rfl (lv_at hl 2 rfl) ?_
        refine x_ild hx hb hK hP 2 0 rfl rfl i (rfl) (by omega) (by decide) (v := σ 1 i) rfl dX2_lost_27 ?_
        refine lv_imul hx hb dX2_lost_28 ?_
        refine lv_iadd hx hb dX2_lost_29 ?_
        refine lv_topi (fun v_1 ev_1 => ?_)
        refine lv_istore_n (lv' := [(1, .int v_1), (0, .ref o), (2, .int (nI i))]) hx hb dX2_lost_30 rfl hl (by decide) rfl (fun ls hl => ?_)
        refine lv_iinc (v := (nI (i + 1))) (lv' := [(2, .int (nI (i + 1))), (1, .int v_1), (0, .ref o)]) hx hb dX2_lost_31 hl (k := 2) rfl (nI_add i 1) (by decide) rfl (fun ls hl => ?_)
        refine lv_goto (tgt := 4) hx hb dX2_lost_34 (by decide) ?_
        have e8 : v_1 = sumI (fun f => if σ 4 f = 0 then 0 else σ 1 f) (i + 1) := by
          rw [ev_1]
          show _ = sumI (fun f => if σ 4 f = 0 then 0 else σ 1 f) i + (fun f => if σ 4 f = 0 then 0 else σ 1 f) i
          congr 1
          show σ 4 i * σ 1 i = if σ 4 i = 0 then 0 else σ 1 i
          rcases hB.2.2.2.2.1 i (by omega) with z | z
          · rw [z, Int32.zero_mul]; rfl
          · rw [z, Int32.one_mul]; rfl
        rw [e8] at hl
        exact ih_4 (i + 1) (by omega) (by omega) _ _ _ hP hD hS (lv_sub hl [2, 1, 0] rfl)
  exact L4 (n + 1) 0 (by omega) (by omega) _ _ _ hP hD hS (lv_sub hl [2, 1, 0] rfl)

abbrev rmX2_allWater : Room := { frames := 1, cells := 0, slots := 0, locals := 21 }
theorem b_X2_allWater : Cond.instanceMethod yX2_allWater ∈ LW ∧ Cond.selects RX2 yX2_allWater yX2_allWater ∈ LW ∧ Cond.initialized RX2 ∈ LW ∧ Cond.code yX2_allWater cX2_allWater 3 (some .int) ∈ LW := ⟨q746, q21, q40, q747⟩
set_option maxHeartbeats 4000000 in
set_option maxRecDepth 100000 in
theorem c_X2_allWater (l : Launch) (D : va_G) (cI cZ cL : ClassId) {n k : Nat} (o : Nat) (b : Nat → Nat) (σ : Sg) (κ ζ : Nat → Int32) (th : Int32) (hst : Shp n k σ) : MC l yX2_allWater cX2_allWater 3 (some .int) rmX2_allWater D (tZ cI cZ cL) [.ref o] (rC cI cZ o b σ κ ζ th) (rC cI cZ o b σ κ ζ th) (some (.int (waterS σ))) := by
  refine MC.of (by decide) (Nat.le_of_ble_eq_true rfl) ?_
  intro p e s m args below meth c A ls Q hx hb hml hr hts hown hlocks hA hP hD hK hS hl hQ
  have hown : s.vm.findClass RX2 = some m.cls := hown
  have hn10 := hst.1
  have hk16 := hst.2.1
  have hl : lv_has ls 3 [(0, .ref o)] := hl
  refine lv_iconst (v := 0) hx hb dX2_allWater_0 (by decide) ?_
  refine lv_istore_n (lv' := [(1, .int 0), (0, .ref o)]) hx hb dX2_allWater_1 rfl hl (by decide) rfl (fun ls hl => ?_)
  refine lv_iconst (v := 0) hx hb dX2_allWater_2 (by decide) ?_
  refine lv_istore_n (lv' := [(2, .int 0), (1, .int 0), (0, .ref o)]) hx hb dX2_allWater_3 rfl hl (by decide) rfl (fun ls hl => ?_)
  have hl : lv_has ls 3 [(2, .int (nI 0)), (1, .int (sumI (fun f => σ 2 f) 0)), (0, .ref o)] := hl
  have L4 : ∀ (f i : Nat), i ≤ n → n < i + f → ∀ (H : Heap) (locs : List Loc) (ls : Array Slot), va_P D vwCl (rC cI cZ o b σ κ ζ th) H → va_D A (rC cI cZ o b σ κ ζ th) → va_S A s.heap H locs → lv_has ls 3 [(0, .ref o), (1, .int (sumI (fun f => σ 2 f) i)), (2, .int (nI i))] → W p l e rmX2_allWater s m args below meth c H locs 0 0 Q (F0 m 4 ls []) := by
    intro f
    induction f with
    | zero => intro i h1 h2; exact absurd h2 (by omega)
    | succ f ih_4 =>
      intro i hi_4 hf_4 H locs ls hP hD hS hl
      refine lv_iload_n hx hb dX2_allWater_4 rfl (lv_at hl 2 rfl) ?_
      refine lv_aload_n hx hb dX2_allWater_5 rfl (lv_at hl 0 rfl) ?_
      refine x_get (C := RX2) (T := TX2) (N := 14) hx hb hts in_wsX20 hown hK hP 0 rfl rfl 1 (by decide) q593 (v := .int (nI n)) (congrArg (fun z => some (Value.int z)) (hst.f0)) dX2_allWater_6 ?_
      refine lv_icmp_ge (tgt := 26) hx hb dX2_allWater_9 (by decide) (fun c_9 => ?_) (fun c_9 => ?_)
      · have hc_9 : n ≤ i := (nI_leI (a := n) (b := i) (by omega) (by omega)).mp c_9
        refine lv_iload_n hx hb dX2_allWater_26 rfl (lv_at hl 1 rfl) ?_
        subst hQ
        exact ri hx hb hr hlocks hK hP hD hS dX2_allWater_27 (rfl) (by unfold waterS; rw [hst.eF, show i = n by omega])
      · have hc_9 : i < n := Nat.not_le.mp (fun z => c_9 ((nI_leI (a := n) (b := i) (by omega) (by omega)).mpr z))
        refine lv_iload_n hx hb dX2_allWater_12 rfl (lv_at hl 1 rfl) ?_
        refine lv_aload_n hx hb dX2_allWater_13 rfl (lv_at hl 0 rfl) ?_
        refine lv_iload_n hx hb dX2_allWater_14 rfl (lv_at hl 2 rfl) ?_
        refine MC.callV (C := RX2) (T := TX2) (N := 14) (As := [.int (nI i)]) (rest := [.int (sumI (fun f => σ 2 f) i)]) (wB := rC cI cZ o b σ κ ζ th) (c_X2_water l D cI cZ cL o b σ κ ζ th i (by omega)) ⟨hx, hb, hml, hown, hts⟩ q686 b_X2_water (n := 1) (by decide +kernel) ⟨Nat.le_of_ble_eq_true rfl, Nat.le_of_ble_eq_true rfl⟩ hK hP hD hS hA (sp0 _) (sp0 _) (ci := 2) rfl (q0 := 0) rfl rfl hl.1 rfl (Nat.le_of_ble_eq_true rfl) dX2_allWater_15 ⟨Nat.le_of_ble_eq_true rfl, Nat.le_of_ble_eq_true rfl⟩ (fun H locs hP hD hS => ?_)
        refine lv_iadd hx hb dX2_allWater_18 ?_
        refine lv_topi (fun v_1 ev_1 => ?_)
        refine lv_istore_n (lv' := [(1, .int v_1), (0, .ref o), (2, .int (nI i))]) hx hb dX2_allWater_19 rfl hl (by decide) rfl (fun ls hl => ?_)
        refine lv_iinc (v := (nI (i + 1))) (lv' := [(2, .int (nI (i + 1))), (1, .int v_1), (0, .ref o)]) hx hb dX2_allWater_20 hl (k := 2) rfl (nI_add i 1) (by decide) rfl (fun ls hl => ?_)
        refine lv_goto (tgt := 4) hx hb dX2_allWater_23 (by decide) ?_
        have e8 : v_1 = sumI (fun f => σ 2 f) (i + 1) := by
          rw [ev_1]
          show _ = sumI (fun f => σ 2 f) i + (fun f => σ 2 f) i
          rfl
        rw [e8] at hl
        exact ih_4 (i + 1) (by omega) (by omega) _ _ _ hP hD hS (lv_sub hl [2, 1, 0] rfl)
  exact L4 (n + 1) 0 (by omega) (by omega) _ _ _ hP hD hS (lv_sub hl [2, 1, 0] rfl)

abbrev rmX2_wet : Room := { frames := 1, cells := 0, slots := 0, locals := 21 }
theorem b_X2_wet : Cond.instanceMethod yX2_wet ∈ LW ∧ Cond.selects RX2 yX2_wet yX2_wet ∈ LW ∧ Cond.initialized RX2 ∈ LW ∧ Cond.code yX2_wet cX2_wet 3 (some .int) ∈ LW := ⟨q758, q22, q40, q759⟩
set_option maxHeartbeats 4000000 in
set_option maxRecDepth 100000 in
theorem c_X2_wet (l : Launch) (D : va_G) (cI cZ cL : ClassId) {n k : Nat} (o : Nat) (b : Nat → Nat) (σ : Sg) (κ ζ : Nat → Int32) (th : Int32) (hst : Shp n k σ) : MC l yX2_wet cX2_wet 3 (some .int) rmX2_wet D (tZ cI cZ cL) [.ref o] (rC cI cZ o b σ κ ζ th) (rC cI cZ o b σ κ ζ th) (some (.int (wetN σ))) := by
  refine MC.of (by decide) (Nat.le_of_ble_eq_true rfl) ?_
  intro p e s m args below meth c A ls Q hx hb hml hr hts hown hlocks hA hP hD hK hS hl hQ
  have hown : s.vm.findClass RX2 = some m.cls := hown
  have hn10 := hst.1
  have hk16 := hst.2.1
  have hl : lv_has ls 3 [(0, .ref o)] := hl
  refine lv_iconst (v := 0) hx hb dX2_wet_0 (by decide) ?_
  refine lv_istore_n (lv' := [(1, .int 0), (0, .ref o)]) hx hb dX2_wet_1 rfl hl (by decide) rfl (fun ls hl => ?_)
  refine lv_iconst (v := 0) hx hb dX2_wet_2 (by decide) ?_
  refine lv_istore_n (lv' := [(2, .int 0), (1, .int 0), (0, .ref o)]) hx hb dX2_wet_3 rfl hl (by decide) rfl (fun ls hl => ?_)
  have hl : lv_has ls 3 [(2, .int (nI 0)), (1, .int (sumI (fun f => isW σ f) 0)), (0, .ref o)] := hl
  have L4 : ∀ (f i : Nat), i ≤ n → n < i + f → ∀ (H : Heap) (locs : List Loc) (ls : Array Slot), va_P D vwCl (rC cI cZ o b σ κ ζ th) H → va_D A (rC cI cZ o b σ κ ζ th) → va_S A s.heap H locs → lv_has ls 3 [(0, .ref o), (1, .int (sumI (fun f => isW σ f) i)), (2, .int (nI i))] → W p l e rmX2_wet s m args below meth c H locs 0 0 Q (F0 m 4 ls []) := by
    intro f
    induction f with
    | zero => intro i h1 h2; exact absurd h2 (by omega)
    | succ f ih_4 =>
      intro i hi_4 hf_4 H locs ls hP hD hS hl
      refine lv_iload_n hx hb dX2_wet_4 rfl (lv_at hl 2 rfl) ?_
      refine lv_aload_n hx hb dX2_wet_5 rfl (lv_at hl 0 rfl) ?_
      refine x_get (C := RX2) (T := TX2) (N := 14) hx hb hts in_wsX20 hown hK hP 0 rfl rfl 1 (by decide) q593 (v := .int (nI n)) (congrArg (fun z => some (Value.int z)) (hst.f0)) dX2_wet_6 ?_
      refine lv_icmp_ge (tgt := 35) hx hb dX2_wet_9 (by decide) (fun c_9 => ?_) (fun c_9 => ?_)
      · have hc_9 : n ≤ i := (nI_leI (a := n) (b := i) (by omega) (by omega)).mp c_9
        refine lv_iload_n hx hb dX2_wet_35 rfl (lv_at hl 1 rfl) ?_
        subst hQ
        exact ri hx hb hr hlocks hK hP hD hS dX2_wet_36 (rfl) (by unfold wetN; rw [hst.eF, show i = n by omega])
      · have hc_9 : i < n := Nat.not_le.mp (fun z => c_9 ((nI_leI (a := n) (b := i) (by omega) (by omega)).mpr z))
        refine lv_iload_n hx hb dX2_wet_12 rfl (lv_at hl 1 rfl) ?_
        refine lv_aload_n hx hb dX2_wet_13 rfl (lv_at hl 0 rfl) ?_
        refine lv_iload_n hx hb dX2_wet_14 rfl (lv_at hl 2 rfl) ?_
        refine MC.callV (C := RX2) (T := TX2) (N := 14) (As := [.int (nI i)]) (rest := [.int (sumI (fun f => isW σ f) i)]) (wB := rC cI cZ o b σ κ ζ th) (c_X2_water l D cI cZ cL o b σ κ ζ th i (by omega)) ⟨hx, hb, hml, hown, hts⟩ q686 b_X2_water (n := 1) (by decide +kernel) ⟨Nat.le_of_ble_eq_true rfl, Nat.le_of_ble_eq_true rfl⟩ hK hP hD hS hA (sp0 _) (sp0 _) (ci := 2) rfl (q0 := 0) rfl rfl hl.1 rfl (Nat.le_of_ble_eq_true rfl) dX2_wet_15 ⟨Nat.le_of_ble_eq_true rfl, Nat.le_of_ble_eq_true rfl⟩ (fun H locs hP hD hS => ?_)
        refine lv_iconst (v := 4) hx hb dX2_wet_18 (by decide) ?_
        have J27_1 : W p l e rmX2_wet s m args below meth c H locs 0 0 Q (F0 m 27 ls [.int (isW σ i), .int (sumI (fun f => isW σ f) i)]) := by
          refine lv_iadd hx hb dX2_wet_27 ?_
          refine lv_topi (fun v_1 ev_1 => ?_)
          refine lv_istore_n (lv' := [(1, .int v_1), (0, .ref o), (2, .int (nI i))]) hx hb dX2_wet_28 rfl hl (by decide) rfl (fun ls hl => ?_)
          refine lv_iinc (v := (nI (i + 1))) (lv' := [(2, .int (nI (i + 1))), (1, .int v_1), (0, .ref o)]) hx hb dX2_wet_29 hl (k := 2) rfl (nI_add i 1) (by decide) rfl (fun ls hl => ?_)
          refine lv_goto (tgt := 4) hx hb dX2_wet_32 (by decide) ?_
          have e8 : v_1 = sumI (fun f => isW σ f) (i + 1) := by
            rw [ev_1]
            show _ = sumI (fun f => isW σ f) i + (fun f => isW σ f) i
            rfl
          rw [e8] at hl
          exact ih_4 (i + 1) (by omega) (by omega) _ _ _ hP hD hS (lv_sub hl [2, 1, 0] rfl)
        refine lv_icmp_lt (tgt := 26) hx hb dX2_wet_19 (by decide) (fun c_19 => ?_) (fun c_19 => ?_)
        · refine lv_iconst (v := 0) hx hb dX2_wet_26 (by decide) ?_
          exact x_top (show 0 = isW σ i by unfold isW; rw [if_neg (Int32.not_le.mpr c_19)]) J27_1
        · refine lv_iconst (v := 1) hx hb dX2_wet_22 (by decide) ?_
          refine lv_goto (tgt := 27) hx hb dX2_wet_23 (by decide) ?_
          exact x_top (show 1 = isW σ i by unfold isW; rw [if_pos (Int32.not_lt.mp c_19)]) J27_1
  exact L4 (n + 1) 0 (by omega) (by omega) _ _ _ hP hD hS (lv_sub hl [2, 1, 0] rfl)

abbrev rmX2_openAt : Room := { frames := 0, cells := 0, slots := 0, locals := 0 }
theorem b_X2_openAt : Cond.instanceMethod yX2_openAt ∈ LW ∧ Cond.selects RX2 yX2_openAt yX2_openAt ∈ LW ∧ Cond.initialized RX2 ∈ LW ∧ Cond.code yX2_openAt cX2_openAt 4 (some .int) ∈ LW := ⟨q798, q25, q40, q799⟩
set_option maxHeartbeats 4000000 in
set_option maxRecDepth 100000 in
theorem c_X2_openAt (l : Launch) (D : va_G) (cI cZ cL : ClassId) {n k : Nat} (o : Nat) (b : Nat → Nat) (σ : Sg) (κ ζ : Nat → Int32) (th : Int32) (hst : Shp n k σ) (j : Nat) (hj : j < n) : MC l yX2_openAt cX2_openAt 4 (some .int) rmX2_openAt D (tZ cI cZ cL) [.ref o, .int (nI j)] (rC cI cZ o b σ κ ζ th) (rC cI cZ o b σ κ ζ th) (some (.int (openS σ j))) := by
  refine MC.of (by decide) (Nat.le_of_ble_eq_true rfl) ?_
  intro p e s m args below meth c A ls Q hx hb hml hr hts hown hlocks hA hP hD hK hS hl hQ
  have hown : s.vm.findClass RX2 = some m.cls := hown
  have hn10 := hst.1
  have hk16 := hst.2.1
  have hl : lv_has ls 4 [(0, .ref o), (1, .int (nI j))] := hl
  refine lv_iconst (v := 0) hx hb dX2_openAt_0 (by decide) ?_
  refine lv_istore_n (lv' := [(2, .int 0), (0, .ref o), (1, .int (nI j))]) hx hb dX2_openAt_1 rfl hl (by decide) rfl (fun ls hl => ?_)
  refine lv_iconst (v := 0) hx hb dX2_openAt_2 (by decide) ?_
  refine lv_istore_n (lv' := [(3, .int 0), (2, .int 0), (0, .ref o), (1, .int (nI j))]) hx hb dX2_openAt_3 rfl hl (by decide) rfl (fun ls hl => ?_)
  have hl : lv_has ls 4 [(3, .int (nI 0)), (2, .int (sumI (fun d => opB σ j d) 0)), (0, .ref o), (1, .int (nI j))] := hl
  have L4 : ∀ (f i : Nat), i ≤ k → k < i + f → ∀ (H : Heap) (locs : List Loc) (ls : Array Slot), va_P D vwCl (rC cI cZ o b σ κ ζ th) H → va_D A (rC cI cZ o b σ κ ζ th) → va_S A s.heap H locs → lv_has ls 4 [(0, .ref o), (2, .int (sumI (fun d => opB σ j d) i)), (3, .int (nI i)), (1, .int (nI j))] → W p l e rmX2_openAt s m args below meth c H locs 0 0 Q (F0 m 4 ls []) := by
    intro f
    induction f with
    | zero => intro i h1 h2; exact absurd h2 (by omega)
    | succ f ih_4 =>
      intro i hi_4 hf_4 H locs ls hP hD hS hl
      refine lv_iload_n hx hb dX2_openAt_4 rfl (lv_at hl 2 rfl) ?_
      refine lv_aload_n hx hb dX2_openAt_5 rfl (lv_at hl 0 rfl) ?_
      refine x_get (C := RX2) (T := TX2) (N := 14) hx hb hts in_wsX20 hown hK hP 0 rfl rfl 2 (by decide) q594 (v := .int (nI k)) (congrArg (fun z => some (Value.int z)) (hst.f1)) dX2_openAt_6 ?_
      refine lv_icmp_ge (tgt := 55) hx hb dX2_openAt_9 (by decide) (fun c_9 => ?_) (fun c_9 => ?_)
      · have hc_9 : k ≤ i := (nI_leI (a := k) (b := i) (by omega) (by omega)).mp c_9
        refine lv_iload_n hx hb dX2_openAt_55 rfl (lv_at hl 1 rfl) ?_
        subst hQ
        exact ri hx hb hr hlocks hK hP hD hS dX2_openAt_56 (rfl) (by unfold openS; rw [hst.eD, show i = k by omega])
      · have hc_9 : i < k := Nat.not_le.mp (fun z => c_9 ((nI_leI (a := k) (b := i) (by omega) (by omega)).mpr z))
        refine lv_iload_n hx hb dX2_openAt_12 rfl (lv_at hl 1 rfl) ?_
        refine lv_aload_n hx hb dX2_openAt_13 rfl (lv_at hl 0 rfl) ?_
        refine x_get (C := RX2) (T := TX2) (N := 14) hx hb hts in_wsX20 hown hK hP 0 rfl rfl 10 (by decide) q602 (v := .ref (b 6)) rfl dX2_openAt_14 ?_
        refine lv_iload_n hx hb dX2_openAt_17 rfl (lv_at hl 2 rfl) ?_
        refine x_zld hx hb hK hP 7 1 rfl rfl i (rfl) (by omega) (by decide) (v := σ 10 i) rfl dX2_openAt_18 ?_
        refine lv_if_eq (tgt := 46) hx hb dX2_openAt_19 (by decide) (fun c_19 => ?_) (fun c_19 => ?_)
        · refine lv_iconst (v := 0) hx hb dX2_openAt_46 (by decide) ?_
          refine x_top (show 0 = opB σ j i by unfold opB; rw [if_pos c_19]) ?_
          refine lv_iadd hx hb dX2_openAt_47 ?_
          refine lv_topi (fun v_1 ev_1 => ?_)
          refine lv_istore_n (lv' := [(2, .int v_1), (0, .ref o), (3, .int (nI i)), (1, .int (nI j))]) hx hb dX2_openAt_48 rfl hl (by decide) rfl (fun ls hl => ?_)
          refine lv_iinc (v := (nI (i + 1))) (lv' := [(3, .int (nI (i + 1))), (2, .int v_1), (0, .ref o), (1, .int (nI j))]) hx hb dX2_openAt_49 hl (k := 2) rfl (nI_add i 1) (by decide) rfl (fun ls hl => ?_)
          refine lv_goto (tgt := 4) hx hb dX2_openAt_52 (by decide) ?_
          have e8 : v_1 = sumI (fun d => opB σ j d) (i + 1) := by
            rw [ev_1]
            show _ = sumI (fun d => opB σ j d) i + (fun d => opB σ j d) i
            rfl
          rw [e8] at hl
          exact ih_4 (i + 1) (by omega) (by omega) _ _ _ hP hD hS (lv_sub hl [2, 1, 0, 3] rfl)
        · refine lv_aload_n hx hb dX2_openAt_22 rfl (lv_at hl 0 rfl) ?_
          refine x_get (C := RX2) (T := TX2) (N := 14) hx hb hts in_wsX20 hown hK hP 0 rfl rfl 6 (by decide) q598 (v := .ref (b 2)) rfl dX2_openAt_23 ?_
          refine lv_iload_n hx hb dX2_openAt_26 rfl (lv_at hl 2 rfl) ?_
          refine x_ild hx hb hK hP 3 0 rfl rfl i (rfl) (by omega) (by decide) (v := σ 5 i) rfl dX2_openAt_27 ?_
          refine lv_iload_n hx hb dX2_openAt_28 rfl (lv_at hl 3 rfl) ?_
          refine lv_icmp_eq (tgt := 42) hx hb dX2_openAt_29 (by decide) (fun c_29 => ?_) (fun c_29 => ?_)
          · refine lv_iconst (v := 1) hx hb dX2_openAt_42 (by decide) ?_
            refine lv_goto (tgt := 47) hx hb dX2_openAt_43 (by decide) ?_
            refine x_top (show 1 = opB σ j i by unfold opB; rw [if_neg c_19, if_pos c_29]) ?_
            refine lv_iadd hx hb dX2_openAt_47 ?_
            refine lv_topi (fun v_2 ev_2 => ?_)
            refine lv_istore_n (lv' := [(2, .int v_2), (0, .ref o), (3, .int (nI i)), (1, .int (nI j))]) hx hb dX2_openAt_48 rfl hl (by decide) rfl (fun ls hl => ?_)
            refine lv_iinc (v := (nI (i + 1))) (lv' := [(3, .int (nI (i + 1))), (2, .int v_2), (0, .ref o), (1, .int (nI j))]) hx hb dX2_openAt_49 hl (k := 2) rfl (nI_add i 1) (by decide) rfl (fun ls hl => ?_)
            refine lv_goto (tgt := 4) hx hb dX2_openAt_52 (by decide) ?_
            have e8 : v_2 = sumI (fun d => opB σ j d) (i + 1) := by
              rw [ev_2]
              show _ = sumI (fun d => opB σ j d) i + (fun d => opB σ j d) i
              rfl
            rw [e8] at hl
            exact ih_4 (i + 1) (by omega) (by omega) _ _ _ hP hD hS (lv_sub hl [2, 1, 0, 3] rfl)
          · refine lv_aload_n hx hb dX2_openAt_32 rfl (lv_at hl 0 rfl) ?_
            refine x_get (C := RX2) (T := TX2) (N := 14) hx hb hts in_wsX20 hown hK hP 0 rfl rfl 7 (by decide) q599 (v := .ref (b 3)) rfl dX2_openAt_33 ?_
            refine lv_iload_n hx hb dX2_openAt_36 rfl (lv_at hl 2 rfl) ?_
            refine x_ild hx hb hK hP 4 0 rfl rfl i (rfl) (by omega) (by decide) (v := σ 6 i) rfl dX2_openAt_37 ?_
            refine lv_iload_n hx hb dX2_openAt_38 rfl (lv_at hl 3 rfl) ?_
            refine lv_icmp_ne (tgt := 46) hx hb dX2_openAt_39 (by decide) (fun c_39 => ?_) (fun c_39 => ?_)
            · refine lv_iconst (v := 0) hx hb dX2_openAt_46 (by decide) ?_
              refine x_top (show 0 = opB σ j i by unfold opB; rw [if_neg c_19, if_neg c_29, if_neg c_39]) ?_
              refine lv_iadd hx hb dX2_openAt_47 ?_
              refine lv_topi (fun v_3 ev_3 => ?_)
              refine lv_istore_n (lv' := [(2, .int v_3), (0, .ref o), (3, .int (nI i)), (1, .int (nI j))]) hx hb dX2_openAt_48 rfl hl (by decide) rfl (fun ls hl => ?_)
              refine lv_iinc (v := (nI (i + 1))) (lv' := [(3, .int (nI (i + 1))), (2, .int v_3), (0, .ref o), (1, .int (nI j))]) hx hb dX2_openAt_49 hl (k := 2) rfl (nI_add i 1) (by decide) rfl (fun ls hl => ?_)
              refine lv_goto (tgt := 4) hx hb dX2_openAt_52 (by decide) ?_
              have e8 : v_3 = sumI (fun d => opB σ j d) (i + 1) := by
                rw [ev_3]
                show _ = sumI (fun d => opB σ j d) i + (fun d => opB σ j d) i
                rfl
              rw [e8] at hl
              exact ih_4 (i + 1) (by omega) (by omega) _ _ _ hP hD hS (lv_sub hl [2, 1, 0, 3] rfl)
            · refine lv_iconst (v := 1) hx hb dX2_openAt_42 (by decide) ?_
              refine lv_goto (tgt := 47) hx hb dX2_openAt_43 (by decide) ?_
              refine x_top (show 1 = opB σ j i by unfold opB; rw [if_neg c_19, if_neg c_29, if_pos c_39]) ?_
              refine lv_iadd hx hb dX2_openAt_47 ?_
              refine lv_topi (fun v_4 ev_4 => ?_)
              refine lv_istore_n (lv' := [(2, .int v_4), (0, .ref o), (3, .int (nI i)), (1, .int (nI j))]) hx hb dX2_openAt_48 rfl hl (by decide) rfl (fun ls hl => ?_)
              refine lv_iinc (v := (nI (i + 1))) (lv' := [(3, .int (nI (i + 1))), (2, .int v_4), (0, .ref o), (1, .int (nI j))]) hx hb dX2_openAt_49 hl (k := 2) rfl (nI_add i 1) (by decide) rfl (fun ls hl => ?_)
              refine lv_goto (tgt := 4) hx hb dX2_openAt_52 (by decide) ?_
              have e8 : v_4 = sumI (fun d => opB σ j d) (i + 1) := by
                rw [ev_4]
                show _ = sumI (fun d => opB σ j d) i + (fun d => opB σ j d) i
                rfl
              rw [e8] at hl
              exact ih_4 (i + 1) (by omega) (by omega) _ _ _ hP hD hS (lv_sub hl [2, 1, 0, 3] rfl)
  exact L4 (k + 1) 0 (by omega) (by omega) _ _ _ hP hD hS (lv_sub hl [2, 1, 0, 3] rfl)
